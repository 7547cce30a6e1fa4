theorem isCh.k {σ σ1 : ST} {i k : Nat} (h : isCh σ i k) (e5 : σ1 5 = σ 5) (e0 : σ1 0 = σ 0) : isCh σ1 i k := by
  unfold isCh on1 at *
  rw [e5, e0]
  exact h
theorem ch_w10l (σ : ST) (p : Nat) (v : Int32) : ∀ (n : Nat) (x y : Int32), url_Nm_chiefOf_14 (wr σ 10 p v) n x y = url_Nm_chiefOf_14 σ n x y := by
  intro n
  induction n with
  | zero => intro x y; rfl
  | succ n ih =>
    intro x y
    rw [url_Nm_chiefOf_14, url_Nm_chiefOf_14]
    simp only [ih]
    rfl
theorem ch_w10 (σ : ST) (p : Nat) (v x : Int32) : urf_Nm_chiefOf (wr σ 10 p v) x = urf_Nm_chiefOf σ x := by
  unfold urf_Nm_chiefOf
  rw [ch_w10l]
  rfl
theorem uh_w10l (σ : ST) (p : Nat) (v : Int32) : ∀ (n : Nat) (x y : Int32), url_Nm_isUnitHit_2 (wr σ 10 p v) n x y = url_Nm_isUnitHit_2 σ n x y := by
  intro n
  induction n with
  | zero => intro x y; rfl
  | succ n ih =>
    intro x y
    rw [url_Nm_isUnitHit_2, url_Nm_isUnitHit_2]
    simp only [ih, ch_w10]
    rfl
theorem uh_w10 (σ : ST) (p : Nat) (v x : Int32) : urf_Nm_isUnitHit (wr σ 10 p v) x = urf_Nm_isUnitHit σ x := uh_w10l σ p v 200 x 0
theorem close_eq {c m : Nat} {σ τ : ST} (w : Wf (fun _ => False) c m σ) (r : Rl c σ τ) {q : Int32} (hq : q = -1 ∨ ∃ p : Nat, p < m ∧ q = nI p) : ∃ σc τc : Int32 → ST, (∀ v, urf_Pr_closeIfAny σ q v = some (σc v)) ∧ (∀ v, ¬ v = 0 → Wf (fun _ => False) c m (σc v) ∧ Rl c (σc v) (τc v)) ∧ (∀ (X : ST → Option (Int32 × ST)) (v : Int32), (if q = -1 then X τ else if ub_in q 60 then X (wr τ 12 q.toNatClampNeg v) else none) = X (τc v)) ∧ (∀ v i, i ≠ 10 → σc v i = σ i) ∧ (∀ v i, i ≠ 12 → τc v i = τ i) ∧ ∀ v x, urf_Nm_isUnitHit (σc v) x = urf_Nm_isUnitHit σ x := by
  have hm := w.m60
  rcases hq with hq | ⟨p, hp, hq⟩
  · subst hq
    refine ⟨fun _ => σ, fun _ => τ, fun v => ?_, fun v _ => ⟨w, r⟩, fun X v => ?_, fun v i _ => rfl, fun v i _ => rfl, fun v x => rfl⟩
    · unfold urf_Pr_closeIfAny
      rw [pn0 w.mn (Or.inl (by decide))]
      rfl
    · rw [if_pos rfl]
  · subst hq
    refine ⟨fun v => wr σ 10 p v, fun v => wr τ 12 p v, fun v => ?_, fun v hv => ⟨w.w10 p hv, r.w10 p v⟩, fun X v => ?_, fun v i hi => wr_ne hi, fun v i hi => wr_ne hi, fun v x => uh_w10 σ p v x⟩
    · unfold urf_Pr_closeIfAny
      rw [pn1 w.mn hm hp]
      simp only [ob_s, if_neg one_ne, if_pos (in_nI (show p < 60 by omega) (by decide)), cl_nI (show p < 2 ^ 31 by omega)]
    · simp only [if_neg (m1_ne (show p < 2 ^ 31 by omega)), if_pos (in_nI (show p < 60 by omega) (by decide)), cl_nI (show p < 2 ^ 31 by omega)]
theorem just_gen {c m : Nat} {σ τ : ST} (w : Wf (fun _ => False) c m σ) (r : Rl c σ τ) (hz : Rz c σ τ) {q : Int32} (hq : q = -1 ∨ ∃ p : Nat, p < m ∧ q = nI p) : ∃ b : Int32, urf_Pr_raisesJust σ q 9 = some b ∧ ∀ X Y : Option (Int32 × ST), (if q = -1 then X else Option.bind (rff_Md_isSame τ q) (fun z => if z = 0 then X else Y)) = if b = 0 then X else Y := by
  have hm := w.m60
  rcases hq with hq | ⟨p, hp, hq⟩
  · subst hq
    refine ⟨0, just_no w, fun X Y => ?_⟩
    rw [if_pos rfl, if_pos rfl]
  · subst hq
    obtain ⟨b, b1, b2⟩ := just_eq w r hz hp
    refine ⟨b, b1, fun X Y => ?_⟩
    rw [if_neg (m1_ne (show p < 2 ^ 31 by omega)), b2]
    rfl
theorem add_eq {c m ch : Nat} {σ τ : ST} (w : Wf (fun _ => False) c m σ) (r : Rl c σ τ) (hz : Rz c σ τ) (hm : m < 60) (hch : ch < c) {b : Int32} (hb : b = 0 ∨ b = 1) (y2 y3 y4 : Int32) : ∃ σ1 τ1 : ST, urf_Pr_add σ (nI ch) (σ 111 1) b 9 = some σ1 ∧ rfj_Md_propose_140 τ (nI ch) y2 y3 y4 b = some (1, τ1) ∧ Wf (fun _ => False) c (m + 1) σ1 ∧ Rl c σ1 τ1 := by
  have hc := w.c12
  have vn : vp_nar .boolean b = b := by
    rcases hb with h | h
    · rw [h]; rfl
    · rw [h]; rfl
  have lt60 : nI m < 60 := nI_lt (b := 60) hm (by decide)
  have r1 : R4 c (wr (wr (wr (wr (wr (wr σ 111 4 (nI (m + 1))) 10 m 0) 11 m (nI ch)) 12 m 0) 13 m (σ 111 1)) 110 m b) (wr (wr (wr (wr τ 12 m 0) 13 m (nI ch)) 15 m (σ 111 1)) 16 m b) := ((((((r.r4 (nI (m + 1))).w10 m 0).w11 m (nI ch)).w12self (w.rdn m (Nat.le_refl m))).w13 m (σ 111 1)).w110 m b)
  obtain ⟨σ1, τ1, q1, q2, q3, q4, q5, q6, q7⟩ := fill_eq (G := σ 9) hc hm hz.1 200 0 _ _ r1 rfl (fun i hi => (hz.2 i hi).1) (by omega) (by omega)
  have q1 : urf_Pr_setRaised (wr (wr (wr (wr (wr (wr σ 111 4 (nI (m + 1))) 10 m 0) 11 m (nI ch)) 12 m 0) 13 m (σ 111 1)) 110 m b) (nI m) 9 = some σ1 := q1
  have q2 : rff_Md_fill (wr (wr (wr (wr τ 12 m 0) 13 m (nI ch)) 15 m (σ 111 1)) 16 m b) (nI m) = some τ1 := q2
  have t4 : τ 18 4 = nI m := r.s4.symm.trans w.mn
  have e4 : τ1 18 4 = nI m := (congrFun (q5 18 (by omega)) 4).trans t4
  have s4 : σ1 111 4 = nI (m + 1) := congrFun (q4 111 (by omega)) 4
  refine ⟨σ1, wr τ1 18 4 (nI (m + 1)), ?_, ?_, ?_, q3.end _ s4⟩
  · unfold urf_Pr_add urf_Pr_isFull
    simp only [w.mn, if_pos lt60, ob_s, if_pos, if_pos (in_nI hm (by decide)), cl_nI (show m < 2 ^ 31 by omega), vn, nI_1, q1]
  · unfold rfj_Md_propose_140
    simp only [t4, if_pos (in_nI hm (by decide)), cl_nI (show m < 2 ^ 31 by omega), ← r.s1]
    rcases hb with h | h
    · subst h
      simp only [if_pos, q2, ob_s, e4, nI_1]
    · subst h
      simp only [if_neg one_ne, q2, ob_s, e4, nI_1]
  · refine w.add (b := b) hz.gr hm hch hb ((q4 1 (by omega)).trans rfl) ((q4 2 (by omega)).trans rfl) ((q4 6 (by omega)).trans rfl) ((q4 10 (by omega)).trans (wr_row (wr σ 111 4 (nI (m + 1))) 10 m 0)) ((q4 11 (by omega)).trans (wr_row (wr (wr σ 111 4 (nI (m + 1))) 10 m 0) 11 m (nI ch))) ((q4 12 (by omega)).trans (wr_row (wr (wr (wr σ 111 4 (nI (m + 1))) 10 m 0) 11 m (nI ch)) 12 m 0)) ((q4 110 (by omega)).trans (wr_row _ 110 m b)) (fun n hn => ?_) (fun n hn => ?_) (fun p hp => ?_) (fun n hn => q7 n (by omega) hn) ((congrFun (q4 111 (by omega)) 1).trans rfl) ((congrFun (q4 111 (by omega)) 3).trans rfl) s4
    · rw [q4 (n + 26) (by omega), wr_ne (by omega), wr_ne (by omega), wr_ne (by omega), wr_ne (by omega), wr_ne (by omega), wr_ne (by omega)]
    · rw [q4 (n + 38) (by omega), wr_ne (by omega), wr_ne (by omega), wr_ne (by omega), wr_ne (by omega), wr_ne (by omega), wr_ne (by omega)]
    · rw [q4 (p + 50) (by omega), wr_ne (by omega), wr_ne (by omega), wr_ne (by omega), wr_ne (by omega), wr_ne (by omega), wr_ne (by omega)]
/-- what a run does with a unit that is due: both alike -/
def Rv (c m : Nat) (q : Int32) (σ1 τ1 : ST) : Prop := (q = 1 ∧ Wf (fun _ => False) c (m + 1) σ1 ∧ Rl c σ1 τ1) ∨ (q = 0 ∧ Wf (fun _ => False) c m σ1 ∧ Rl c σ1 τ1) ∨ (q = -1 ∧ Wf (fun _ => False) c m σ1 ∧ Rl c σ1 (wr τ1 18 5 (τ1 18 5 + 1)))
theorem review_eq {c m ch : Nat} {σ τ : ST} (w : Wf (fun _ => False) c m σ) (r : Rl c σ τ) (hch : ch < c) (hc : isCh σ ch ch) : ∃ (q : Int32) (σ1 τ1 : ST), urf_Rb_review σ (nI ch) = some σ1 ∧ rff_Md_propose τ (nI ch) = some (q, τ1) ∧ Rv c m q σ1 τ1 := by
  have h12 := w.c12
  have hm := w.m60
  obtain ⟨z, z', σs, τs, s1, s2, k1, k2, k3⟩ := solve_eq w r hch hc
  have ws := w.k k1
  have rs := r.k k1 k2
  have hcs : isCh σs ch ch := hc.k (k1 5 (by omega) (by omega)) (k1 0 (by omega) (by omega))
  obtain ⟨q, l1, l2, l3⟩ := lat_eq w (r.k (kU.rf σ) k2) (nI ch) 0
  have hq : q = -1 ∨ ∃ p : Nat, p < m ∧ q = nI p := by
    rcases l3 with l | ⟨p, p1, p2, -⟩
    · exact Or.inl l
    · exact Or.inr ⟨p, p1, p2⟩
  obtain ⟨σc, τc, c1, c2, c3, c4, c5, c6⟩ := close_eq ws rs hq
  have n3 : ¬ (3 : Int32) = 0 := by decide
  have n2 : ¬ (2 : Int32) = 0 := by decide
  unfold urf_Rb_review urf_Pr_openOf rff_Md_propose
  simp only [l1, l2, s1, s2, ob_s]
  -- nothing to do, or no way
  have stop : ¬ 0 < z → ¬ 0 < z' → ∃ (q' : Int32) (σ1 τ1 : ST), (if 0 < z then Option.bind (urf_Pr_raisesJust σs q 9) (fun q4 => if q4 = 0 then Option.bind (urf_Pr_latestFailedOf σs (nI ch)) (fun q6 => Option.bind (urf_Pr_raisesJust σs q6 9) (fun q7 => if q7 = 0 then Option.bind (urf_Rb_mayOpen σs (nI ch) q) (fun q9 => if q9 = 0 then some (wr σs 111 2 (σs 111 2 + 1)) else Option.bind (urf_Pr_closeIfAny σs q 2) (fun q11 => Option.bind (urf_Nm_isUnitHit q11 (nI ch)) (fun q12 => Option.bind (urf_Pr_add q11 (nI ch) (q11 111 1) q12 9) (fun q13 => some q13)))) else Option.bind (urf_Pr_closeIfAny σs q 3) (fun q14 => some q14))) else some σs) else Option.bind (urf_Pr_closeIfAny σs q 3) (fun q15 => some q15)) = some σ1 ∧ (if 0 < z' then (if q = -1 then rfj_Md_propose_46 τs (nI ch) z' q else Option.bind (rff_Md_isSame τs q) (fun q28 => if q28 = 0 then rfj_Md_propose_46 τs (nI ch) z' q else some (0, τs))) else (if q = -1 then rfj_Md_propose_29 τs (nI ch) z' q else if ub_in q 60 then rfj_Md_propose_29 (wr τs 12 q.toNatClampNeg 3) (nI ch) z' q else none)) = some (q', τ1) ∧ Rv c m q' σ1 τ1 := by
    intro h1 h2
    rw [if_neg h1, if_neg h2, c1, c3 (fun t => rfj_Md_propose_29 t (nI ch) z' q) 3]
    exact ⟨0, σc 3, τc 3, rfl, rfl, Or.inr (Or.inl ⟨rfl, (c2 3 n3).1, (c2 3 n3).2⟩)⟩
  rcases k3 with ⟨o, o1, o2, o3, o4⟩ | ⟨k, j1, j2, j3, hz⟩
  · subst o2
    subst o3
    refine stop ?_ (by decide)
    rw [i_lt]
    have t1 : (-2 - nI o).toInt = ((0 : Nat) : Int) - ((2 + o : Nat) : Int) := by
      have e2 : (-2 : Int32) = -nI 2 := by decide
      have e1 : (-2 : Int32) - nI o = nI 0 - nI (2 + o) := by
        rw [← nI_add 2 o, nI_0, Int32.zero_sub, Int32.neg_add, e2]
      rw [e1]
      exact pk_sub_toInt (by omega) (by omega)
    have t0 : (0 : Int32).toInt = 0 := by decide
    rw [t1, t0]
    omega
  · subst j2
    subst j3
    by_cases k0 : k = 0
    · subst k0
      exact stop (by decide) (by decide)
    have kp : (0 : Int32) < nI k := nI_lt (a := 0) (by omega) (by omega)
    rw [if_pos kp, if_pos kp]
    obtain ⟨b, b1, b2⟩ := just_gen ws rs hz hq
    rw [b2, b1]
    simp only [ob_s]
    by_cases bz : b = 0
    · rw [if_pos bz, if_pos bz]
      unfold rfj_Md_propose_46 urf_Pr_latestFailedOf
      obtain ⟨q6, f1, f2, f3⟩ := lat_eq ws rs (nI ch) 4
      have hq6 : q6 = -1 ∨ ∃ p : Nat, p < m ∧ q6 = nI p := by
        rcases f3 with l | ⟨p, p1, p2, -⟩
        · exact Or.inl l
        · exact Or.inr ⟨p, p1, p2⟩
      obtain ⟨b6, d1, d2⟩ := just_gen ws rs hz hq6
      simp only [f1, f2, ob_s]
      rw [d2, d1]
      simp only [ob_s]
      by_cases bz6 : b6 = 0
      · rw [if_pos bz6, if_pos bz6]
        obtain ⟨hb, u0, u1, u2⟩ := uhit_eq ws rs hch hcs
        -- it waits
        have wait : ∃ (q' : Int32) (σ1 τ1 : ST), some (wr σs 111 2 (σs 111 2 + 1)) = some σ1 ∧ some ((-1 : Int32), τs) = some (q', τ1) ∧ Rv c m q' σ1 τ1 := by
          refine ⟨-1, _, _, rfl, rfl, Or.inr (Or.inr ⟨rfl, ws.sc2 _, ?_⟩)⟩
          have z := rs.sc2 (σs 111 2 + 1)
          rw [rs.s2] at z ⊢
          exact z
        -- it is opened
        have open1 : m < 60 → ∃ (q' : Int32) (σ1 τ1 : ST), Option.bind (urf_Pr_closeIfAny σs q 2) (fun q11 => Option.bind (urf_Nm_isUnitHit q11 (nI ch)) (fun q12 => Option.bind (urf_Pr_add q11 (nI ch) (q11 111 1) q12 9) (fun q13 => some q13))) = some σ1 ∧ rfj_Md_propose_128 τs (nI ch) (nI k) q q6 hb = some (q', τ1) ∧ Rv c m q' σ1 τ1 := by
          intro hm6
          unfold rfj_Md_propose_128
          rw [c1, c3 (fun t => rfj_Md_propose_140 t (nI ch) (nI k) q q6 hb) 2]
          simp only [ob_s, c6, u1]
          have hz2 : Rz c (σc 2) (τc 2) := by
            refine ⟨fun n h1 h2 => ?_, fun n hn => ?_⟩
            · rw [c4 2 9 (by omega)]
              exact hz.1 n h1 h2
            · rw [c4 2 9 (by omega), c4 2 2 (by omega), c4 2 1 (by omega)]
              refine ⟨?_, (hz.2 n hn).2⟩
              have e := (hz.2 n hn).1
              unfold rff_Md_raised at e ⊢
              rw [c5 2 11 (by omega), c5 2 2 (by omega)]
              exact e
          obtain ⟨σ1, τ1, a1, a2, a3, a4⟩ := add_eq (c2 2 n2).1 (c2 2 n2).2 hz2 hm6 hch u0 (nI k) q q6
          rw [a1, a2]
          exact ⟨1, σ1, τ1, rfl, rfl, Or.inl ⟨rfl, a3, a4⟩⟩
        unfold rfj_Md_propose_83 rfj_Md_propose_126
        unfold urf_Rb_mayOpen urf_Pr_isFull
        have t4 : τs 18 4 = nI m := rs.s4.symm.trans ws.mn
        simp only [ws.mn, t4, u1, u2, ob_s]
        by_cases m6 : m = 60
        · subst m6
          have e1 : ¬ nI 60 < 60 := by decide
          have e2 : nI 60 = 60 := rfl
          simp only [if_neg e1, if_pos e2, ob_s, if_neg one_ne, if_pos]
          exact wait
        · have e1 : nI m < 60 := nI_lt (b := 60) (by omega) (by decide)
          have e2 : ¬ nI m = 60 := fun z => m6 ((nI_eq (b := 60) (by omega) (by decide)).mp z)
          simp only [if_pos e1, if_neg e2, ob_s, if_pos, if_pos (in_nI (show ch < 12 by omega) (by decide)), cl_nI (show ch < 2 ^ 31 by omega), ← rs.a0, ← rs.s0]
          by_cases q1 : q = -1
          · simp only [if_pos q1]
            obtain ⟨g, g1, g2⟩ := openIn_eq ws rs (σs 0 ch)
            simp only [g1, g2, ob_s]
            by_cases hb0 : hb = 0
            · simp only [if_pos hb0]
              by_cases li : σs 111 0 ≤ g
              · simp only [if_pos li, if_neg (Int32.not_lt.mpr li), ob_s, if_pos]
                exact wait
              · simp only [if_neg li, if_pos (Int32.not_le.mp li), ob_s, if_neg one_ne]
                exact open1 (by omega)
            · simp only [if_neg hb0, ob_s, if_neg one_ne, ite_self]
              exact open1 (by omega)
          · simp only [if_neg q1, ob_s, if_neg one_ne]
            exact open1 (by omega)
      · rw [if_neg bz6, if_neg bz6, c1, c3 (fun t => rfj_Md_propose_81 t (nI ch) (nI k) q q6) 3]
        exact ⟨0, σc 3, τc 3, rfl, rfl, Or.inr (Or.inl ⟨rfl, (c2 3 n3).1, (c2 3 n3).2⟩)⟩
    · rw [if_neg bz, if_neg bz]
      exact ⟨0, σs, τs, rfl, rfl, Or.inr (Or.inl ⟨rfl, ws, rs⟩)⟩
