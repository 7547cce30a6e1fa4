variable {X : Nat → Prop}
theorem wr_eq (σ : ST) (i j : Nat) (v : Int32) : wr σ i j v i j = v := by
  rw [wr_at, if_pos rfl, if_pos rfl]
theorem lt12 {c : Nat} (h : c ≤ 12) : (nI c < 12) ↔ ¬ nI c = 12 := by
  rw [i_lt, i_eq, t_nI (by omega)]
  have h1 : (12 : Int32).toInt = 12 := by decide
  omega
/-- the world behind a new name -/
theorem Wf.name {c m : Nat} {σ σ1 : ST} (w : Wf X c m σ) (hc : c < 12) (e1 : σ1 1 = upd (σ 1) c 1) (e2 : σ1 2 = upd (σ 2) c 0) (e6 : σ1 6 = upd (σ 6) c (-1)) (e10 : σ1 10 = σ 10) (e11 : σ1 11 = σ 11) (e12 : σ1 12 = σ 12) (e110 : σ1 110 = σ 110) (n26 : σ1 (c + 26) = upd (σ (c + 26)) 0 (-1)) (o26 : ∀ n, n < c → σ1 (n + 26) = σ (n + 26)) (e38 : ∀ n, n < 12 → σ1 (n + 38) = σ (n + 38)) (e50 : ∀ p, p < 60 → σ1 (p + 50) = σ (p + 50)) (s1 : σ1 111 1 = σ 111 1) (s3 : σ1 111 3 = nI (c + 1)) (s4 : σ1 111 4 = σ 111 4) : Wf X (c + 1) m σ1 := by
  have hm := w.m60
  have un : ∀ (f : Nat → Int32) (v : Int32) (n : Nat), n < c → upd f c v n = f n := fun f v n hn => by
    unfold upd
    rw [if_neg (by omega)]
  have us : ∀ (f : Nat → Int32) (v : Int32), upd f c v c = v := fun f v => by
    unfold upd
    rw [if_pos rfl]
  refine ⟨by omega, s3, hm, s4.trans w.mn, fun n hn => ?_, fun n hn => ?_, fun n hn => ?_, fun n v hn hv hl => ?_, fun n v hn hv => ?_, ?_, fun p hp => ?_, fun p hp => ?_, fun p => ?_, fun p n hp hn h12 => ?_, fun p n hp hn ho => ?_, fun p n hp hn => ?_⟩
  · rw [e1, e2]
    by_cases e : n = c
    · subst e
      rw [us, us]
      exact ⟨0, 1, by omega, by omega, rfl, rfl⟩
    · rw [un _ _ _ (by omega), un _ _ _ (by omega)]
      exact w.had n (by omega)
  · rw [e2]
    unfold upd
    rw [if_neg (by omega)]
    exact w.had0 n (by omega)
  · rw [e1, e6]
    by_cases e : n = c
    · subst e
      rw [us]
      exact Or.inl rfl
    · rw [un _ _ _ (by omega), un _ _ _ (by omega)]
      exact w.adv n (by omega)
  · by_cases e : n = c
    · subst e
      rw [e1, us] at hl
      have hv0 : v = 0 := by
        have : nI v < nI 1 := hl
        rw [nI_ltI (by omega) (by omega)] at this
        omega
      subst hv0
      rw [n26]
      exact Or.inl (by unfold upd; rw [if_pos rfl])
    · rw [e1, un _ _ _ (by omega)] at hl
      rw [o26 n (by omega)]
      rcases w.ned n v (by omega) hv hl with q | ⟨o, h1, h2⟩
      · exact Or.inl q
      · exact Or.inr ⟨o, by omega, h2⟩
  · rw [e38 n hn]
    exact w.lst n v hn hv
  · rw [s1]
    exact w.clk
  · rw [e11]
    obtain ⟨q, h1, h2⟩ := w.chf p hp
    exact ⟨q, by omega, h2⟩
  · rw [e12]
    exact w.rdn p hp
  · rw [e110]
    exact w.hit p
  · rw [e50 p (by omega)]
    exact w.row p n hp (by omega) h12
  · rw [e10] at ho
    rw [e50 p (by omega), e2]
    by_cases e : n = c
    · subst e
      rw [w.row p n hp (Nat.le_refl n) hn]
      exact Or.inr (Or.inl rfl)
    · unfold upd
      rw [if_neg e]
      exact w.opn p n hp hn ho
  · rw [e50 p (by omega), e1]
    by_cases e : n = c
    · subst e
      exact Or.inl (w.row p n hp (Nat.le_refl n) hc)
    · rw [un _ _ _ (by omega)]
      exact w.rwv p n hp (by omega)
theorem st_name (σ τ : ST) (x1 : Int32) (h : Iv σ τ) : ∃ (r : Int32) (σ1 τ1 : ST), urf_Rb_name σ x1 = some (r, σ1) ∧ rff_Md_name τ x1 = some (r, τ1) ∧ Iv σ1 τ1 := by
  obtain ⟨c, m, w, r⟩ := h
  have hc := w.c12
  have no : ∃ (r : Int32) (σ1 τ1 : ST), some ((-1 : Int32), σ) = some (r, σ1) ∧ some ((-1 : Int32), wr τ 18 1 0) = some (r, τ1) ∧ Iv σ1 τ1 := ⟨-1, _, _, rfl, rfl, c, m, w, r.code⟩
  unfold urf_Rb_name rff_Md_name urf_Rb_isRepository urf_Nm_add rfj_Md_name_23
  simp only [w.cn, r.t3, cl_nI (show c < 2 ^ 31 by omega)]
  have z0 : (0 : Int32) = 0 := rfl
  by_cases a1 : x1 < 0
  · simp only [if_pos a1, ob_s, if_pos, ite_self]
    exact no
  by_cases a2 : 3 ≤ x1
  · have b2 : ¬ x1 ≤ 2 := fun q => by
      rw [i_le] at a2 q
      have h1 : (3 : Int32).toInt = 3 := by decide
      have h2 : (2 : Int32).toInt = 2 := by decide
      omega
    simp only [if_neg a1, if_pos a2, ob_s, if_pos, if_neg b2, ite_self]
    exact no
  have b2 : x1 ≤ 2 := by
    rw [i_le] at a2 ⊢
    have h1 : (3 : Int32).toInt = 3 := by decide
    have h2 : (2 : Int32).toInt = 2 := by decide
    omega
  simp only [if_neg a1, if_neg a2, ob_s, if_neg one_ne, if_pos b2]
  by_cases a3 : nI c = 12
  · have b3 : ¬ nI c < 12 := fun q => (lt12 hc).mp q a3
    simp only [if_pos a3, if_neg b3, ob_s]
    exact no
  · have b3 : nI c < 12 := (lt12 hc).mpr a3
    have hlt : c < 12 := by
      rcases Nat.lt_or_ge c 12 with q | q
      · exact q
      · exact absurd (by rw [show c = 12 by omega]; rfl) a3
    have i8 : (8 : Int32) * nI c = nI (8 * c) := pk_mul 8 c
    have c0 : ((0 : Int32).toNatClampNeg) = 0 := rfl
    have h08 : ub_in (0 : Int32) 8 := by decide
    have e9 : nI c + 1 = nI (c + 1) := nI_1 c
    have e8 : nI c + 1 - 1 = nI c := by rw [e9, nI_pred]
    simp only [if_neg a3, if_pos b3, ob_s, if_pos (in_nI hlt (by decide)), i8, cl_nI (show 8 * c < 2 ^ 31 by omega), if_pos (in_nI (show 8 * c < 96 by omega) (by decide)), if_pos h08, c0, e8]
    refine ⟨nI c, _, _, rfl, rfl, c + 1, m, ?_, ?_⟩
    · refine w.name hlt ?_ ?_ ?_ ?_ ?_ ?_ ?_ ?_ (fun n hn => ?_) (fun n hn => ?_) (fun p hp => ?_) ?_ ?_ ?_
      all_goals first | (rw [wr_row]; rw [wr_ne (by omega), wr_ne (by omega), wr_ne (by omega), wr_ne (by omega), wr_ne (by omega), wr_ne (by omega), wr_ne (by omega), wr_ne (by omega), wr_ne (by omega)]; done) | (rw [wr_ne (by omega), wr_ne (by omega), wr_ne (by omega), wr_ne (by omega), wr_ne (by omega), wr_ne (by omega), wr_ne (by omega), wr_ne (by omega), wr_ne (by omega), wr_ne (by omega)]; done) | (rw [wr_ne (by omega)]; exact e9) | (rw [wr_ne (by omega)]; rfl) | (rw [wr_ne (by omega)]; exact wr_row _ _ _ _)
    · have q := ((((((((((r.code.sc3 (nI c + 1)).w0 c x1).w1new 1).w2self (w.had0 c (Nat.le_refl c))).w3 c 2).w4 c 1).w5 c (-1)).w6 c (-1)).w7 c (-1)).g26 hlt (show 0 < 8 by omega) (-1)).grow (by rw [wr_ne (by omega)]; exact wr_eq (wr (wr σ 111 3 (nI c + 1)) 0 c x1) 1 c 1)
      rw [← e9] at q
      exact q
