variable {X : Nat → Prop}
def kU (σ σ1 : ST) : Prop := ∀ i : Nat, i ≠ 8 → i ≠ 9 → σ1 i = σ i
def kR (τ τ1 : ST) : Prop := (∀ i : Nat, i ≠ 11 → i ≠ 18 → τ1 i = τ i) ∧ ∀ j : Nat, j ≠ 6 → τ1 18 j = τ 18 j
theorem kU.rf (σ : ST) : kU σ σ := fun _ _ _ => rfl
theorem kU.tr {a b d : ST} (h : kU a b) (k : kU b d) : kU a d := fun i h1 h2 => (k i h1 h2).trans (h i h1 h2)
theorem kU.w8 (σ : ST) (j : Nat) (v : Int32) : kU σ (wr σ 8 j v) := fun i h1 _ => wr_ne h1
theorem kU.w9 (σ : ST) (j : Nat) (v : Int32) : kU σ (wr σ 9 j v) := fun i _ h2 => wr_ne h2
theorem kR.rf (τ : ST) : kR τ τ := ⟨fun _ _ _ => rfl, fun _ _ => rfl⟩
theorem kR.tr {a b d : ST} (h : kR a b) (k : kR b d) : kR a d := ⟨fun i h1 h2 => (k.1 i h1 h2).trans (h.1 i h1 h2), fun j h1 => (k.2 j h1).trans (h.2 j h1)⟩
theorem kR.w11 (τ : ST) (j : Nat) (v : Int32) : kR τ (wr τ 11 j v) := ⟨fun i h1 _ => wr_ne h1, fun j h => rfl⟩
theorem kR.w6 (τ : ST) (v : Int32) : kR τ (wr τ 18 6 v) := ⟨fun i _ h2 => wr_ne h2, fun j h => by rw [wr_at, if_pos rfl, if_neg h]⟩
theorem Wf.k {c m : Nat} {σ σ1 : ST} (h : Wf X c m σ) (k : kU σ σ1) : Wf X c m σ1 :=
  ⟨h.c12,
   (congrFun (k 111 (by omega) (by omega)) 3).trans h.cn,
   h.m60,
   (congrFun (k 111 (by omega) (by omega)) 4).trans h.mn,
   fun n hn => by rw [k 2 (by omega) (by omega), k 1 (by omega) (by omega)]; exact h.had n hn,
   fun n hn => by rw [k 2 (by omega) (by omega)]; exact h.had0 n hn,
   fun n hn => by rw [k 6 (by omega) (by omega), k 1 (by omega) (by omega)]; exact h.adv n hn,
   fun n v hn hv hl => by rw [k 1 (by omega) (by omega)] at hl; rw [k (n + 26) (by omega) (by omega)]; exact h.ned n v hn hv hl,
   fun n v hn hv => by rw [k (n + 38) (by omega) (by omega)]; exact h.lst n v hn hv,
   by rw [k 111 (by omega) (by omega)]; exact h.clk,
   fun p hp => by rw [k 11 (by omega) (by omega)]; exact h.chf p hp,
   fun p hp => by rw [k 12 (by omega) (by omega)]; exact h.rdn p hp,
   fun p => by rw [k 110 (by omega) (by omega)]; exact h.hit p,
   fun p n hp hn h12 => by rw [k (p + 50) (by omega) (by omega)]; exact h.row p n hp hn h12,
   fun p n hp hn ho => by rw [k 10 (by omega) (by omega)] at ho; rw [k (p + 50) (by omega) (by omega), k 2 (by omega) (by omega)]; exact h.opn p n hp hn ho,
   fun p n hp hn => by rw [k (p + 50) (by omega) (by omega), k 1 (by omega) (by omega)]; exact h.rwv p n hp hn⟩
theorem Rl.k {c : Nat} {σ τ σ1 τ1 : ST} (h : Rl c σ τ) (k : kU σ σ1) (q : kR τ τ1) : Rl c σ1 τ1 :=
  ⟨by rw [k 0 (by omega) (by omega), q.1 0 (by omega) (by omega)]; exact h.a0,
   by rw [k 2 (by omega) (by omega), q.1 2 (by omega) (by omega)]; exact h.a2,
   by rw [k 3 (by omega) (by omega), q.1 3 (by omega) (by omega)]; exact h.a3,
   by rw [k 4 (by omega) (by omega), q.1 4 (by omega) (by omega)]; exact h.a4,
   by rw [k 5 (by omega) (by omega), q.1 5 (by omega) (by omega)]; exact h.a5,
   by rw [k 6 (by omega) (by omega), q.1 6 (by omega) (by omega)]; exact h.a6,
   by rw [k 7 (by omega) (by omega), q.1 7 (by omega) (by omega)]; exact h.a7,
   by rw [k 10 (by omega) (by omega), q.1 12 (by omega) (by omega)]; exact h.a10,
   by rw [k 11 (by omega) (by omega), q.1 13 (by omega) (by omega)]; exact h.a11,
   by rw [k 12 (by omega) (by omega), q.1 14 (by omega) (by omega)]; exact h.a12,
   by rw [k 13 (by omega) (by omega), q.1 15 (by omega) (by omega)]; exact h.a13,
   by rw [k 110 (by omega) (by omega), q.1 16 (by omega) (by omega)]; exact h.a110,
   fun x y hx hy => by rw [k (x + 14) (by omega) (by omega), q.1 8 (by omega) (by omega)]; exact h.k14 x y hx hy,
   fun x y hx hy => by rw [k (x + 26) (by omega) (by omega), q.1 9 (by omega) (by omega)]; exact h.k26 x y hx hy,
   fun x y hx hy => by rw [k (x + 38) (by omega) (by omega), q.1 10 (by omega) (by omega)]; exact h.k38 x y hx hy,
   fun x y hx hy => by rw [k (x + 50) (by omega) (by omega), q.1 17 (by omega) (by omega)]; exact h.k50 x y hx hy,
   fun n hn => by rw [k 1 (by omega) (by omega), q.1 1 (by omega) (by omega)]; exact h.v1 n hn,
   fun n hn => by rw [q.1 1 (by omega) (by omega)]; exact h.v0 n hn,
   by rw [k 111 (by omega) (by omega), q.2 0 (by omega)]; exact h.s0,
   by rw [k 111 (by omega) (by omega), q.2 2 (by omega)]; exact h.s1,
   by rw [k 111 (by omega) (by omega), q.2 5 (by omega)]; exact h.s2,
   by rw [q.2 3 (by omega)]; exact h.t3,
   by rw [k 111 (by omega) (by omega), q.2 4 (by omega)]; exact h.s4⟩
/-- the targets on both sides, from what is had up to the newest -/
def Tp (j : Nat) (σ τ : ST) : Prop := ∀ n, n < j → ∃ t h v : Nat, σ 8 n = nI t ∧ τ 11 n = nI t ∧ σ 2 n = nI h ∧ σ 1 n = nI (v + 1) ∧ τ 1 n = nI v ∧ h ≤ t ∧ t ≤ v ∧ v ≤ 7
theorem Tp.put {c m j : Nat} {σ τ : ST} (w : Wf X c m σ) (r : Rl c σ τ) (h : Tp j σ τ) (hj : j < c) {t hh v : Nat} (e3 : σ 2 j = nI hh) (e4 : σ 1 j = nI (v + 1)) (e5 : τ 1 j = nI v) (g1 : hh ≤ t) (g2 : t ≤ v) (g3 : v ≤ 7) : Tp (j + 1) (wr σ 8 j (nI t)) (wr τ 11 j (nI t)) := by
  intro n hn
  by_cases e : n = j
  · subst e
    exact ⟨t, hh, v, wr_eq _ _ _ _, wr_eq _ _ _ _, e3, e4, e5, g1, g2, g3⟩
  · obtain ⟨t', h', v', q1, q2, q3⟩ := h n (by omega)
    refine ⟨t', h', v', ?_, ?_, q3⟩
    · rw [wr_at, if_pos rfl, if_neg e]
      exact q1
    · rw [wr_at, if_pos rfl, if_neg e]
      exact q2
theorem setOut_eq {c m ch : Nat} (hch : ch < c) : ∀ (n j : Nat) (σ τ : ST), Wf X c m σ → Rl c σ τ → isCh σ ch ch → Tp j σ τ → j ≤ c → c - j < n → ∃ σ1 τ1 : ST, url_So_setOut_2 n σ (nI ch) (nI j) = some σ1 ∧ rfl_Md_find_2 n τ (nI ch) (nI j) = Option.bind (rff_Md_wanting τ1) (fun q => rfl_Md_find_50 200 τ1 (nI ch) q) ∧ kU σ σ1 ∧ kR τ τ1 ∧ Tp c σ1 τ1 := by
  intro n
  induction n with
  | zero => intro j σ τ w r hc ht h1 h2; omega
  | succ n ih =>
    intro j σ τ w r hc ht h1 h2
    have h12 := w.c12
    rw [url_So_setOut_2, rfl_Md_find_2, w.cn, r.t3]
    by_cases e : j = c
    · subst e
      simp only [if_pos (Int32.le_refl (nI j))]
      exact ⟨σ, τ, rfl, rfl, kU.rf σ, kR.rf τ, ht⟩
    · have hj : j < c := by omega
      obtain ⟨hh, v, e1, e2, e3, e4, e5⟩ := vnew w r hj
      obtain ⟨k, hk⟩ := ch_ex σ j
      have hk1 := hk.1
      simp only [if_neg (nI_ge hj (by omega)), ur_ch w hj hk, ob_s, if_pos (in_nI (show j < 12 by omega) (by decide)), cl_nI (show j < 2 ^ 31 by omega), nI_1, ← r.a2, e3]
      by_cases a : on1 σ j ch
      · have ek : k = ch := (ch_on hc hk).mpr a
        obtain ⟨g, g1, g2, g3, g4⟩ := goal_ex w r hj e1 e2 e3 e4 e5
        simp only [ek, if_pos, rf_on r (show j < 12 by omega) (show ch < 12 by omega) a, ob_s, if_neg one_ne, g3, g4]
        obtain ⟨σ1, τ1, q1, q2, q3, q4, q5⟩ := ih (j + 1) (wr σ 8 j (nI g)) (wr τ 11 j (nI g)) (w.w8 j _) ((r.w8 j _).t11 j _) hc (ht.put w r hj e3 e4 e5 g1 g2 e2) (by omega) (by omega)
        exact ⟨σ1, τ1, q1, q2, (kU.w8 σ j _).tr q3, (kR.w11 τ j _).tr q4, q5⟩
      · have ne : ¬ nI k = nI ch := fun q => a ((ch_on hc hk).mp ((nI_eq (by omega) (by omega)).mp q))
        simp only [if_neg ne, rf_no r (show j < 12 by omega) (show ch < 12 by omega) a, ob_s, if_pos]
        obtain ⟨σ1, τ1, q1, q2, q3, q4, q5⟩ := ih (j + 1) (wr σ 8 j (nI hh)) (wr τ 11 j (nI hh)) (w.w8 j _) ((r.w8 j _).t11 j _) hc (ht.put w r hj e3 e4 e5 (Nat.le_refl hh) e1 e2) (by omega) (by omega)
        exact ⟨σ1, τ1, q1, q2, (kU.w8 σ j _).tr q3, (kR.w11 τ j _).tr q4, q5⟩
/-- who needs another one: both find the same -/
def Nd (c : Nat) (σ : ST) (q : Int32) : Prop := q = -1 ∨ ∃ a t o l s : Nat, q = nI a ∧ a < c ∧ σ 8 a = nI t ∧ t ≤ 7 ∧ σ (a + 26) t = nI o ∧ o < c ∧ σ (a + 38) t = nI l ∧ l ≤ 7 ∧ σ 8 o = nI s ∧ s < l
theorem needy_eq {c m : Nat} {σ τ : ST} (w : Wf X c m σ) (r : Rl c σ τ) (ht : Tp c σ τ) : ∀ (n j : Nat), j ≤ c → c - j < n → ∃ q : Int32, url_So_firstNeedy_2 σ n (nI j) = some q ∧ rfl_Md_wanting_2 τ n (nI j) = some q ∧ Nd c σ q := by
  have h12 := w.c12
  intro n
  induction n with
  | zero => intro j h1 h2; omega
  | succ n ih =>
    intro j h1 h2
    rw [url_So_firstNeedy_2, rfl_Md_wanting_2, w.cn, r.t3]
    by_cases e : j = c
    · subst e
      simp only [if_pos (Int32.le_refl (nI j))]
      exact ⟨-1, rfl, rfl, Or.inl rfl⟩
    · have hj : j < c := by omega
      obtain ⟨t, h, v, e1, e2, e3, e4, e5, g1, g2, g3⟩ := ht j hj
      have e8 : (8 : Int32) * nI j + nI t = nI (8 * j + t) := by rw [show (8 : Int32) * nI j = nI (8 * j) from pk_mul 8 j, nI_add]
      have next := ih (j + 1) (by omega) (by omega)
      simp only [if_neg (nI_ge hj (by omega)), if_pos (in_nI (show j < 12 by omega) (by decide)), cl_nI (show j < 2 ^ 31 by omega), nI_1, ← r.a2, e1, e2, e3]
      by_cases a : t ≤ h
      · simp only [if_pos (nI_le a (by omega))]
        exact next
      · have a' : ¬ nI t ≤ nI h := nI_ge (by omega) (by omega)
        have b1 : ¬ nI t < 0 := fun q => Int32.lt_irrefl (Int32.lt_of_lt_of_le q (nI_pos' (show t < 2 ^ 31 by omega)))
        have b2 : nI t < (8 : Int32) := nI_lt (a := t) (b := (8 : Nat)) (by omega) (by decide)
        unfold urf_So_lacksAtTarget
        simp only [if_neg a', e8, if_pos (in_nI (show 8 * j + t < 96 by omega) (by decide)), cl_nI (show 8 * j + t < 2 ^ 31 by omega), ← r.k26 j t (by omega) (by omega), ← r.k38 j t (by omega) (by omega), if_pos (in_nI (show j < 12 by omega) (by decide)), cl_nI (show j < 2 ^ 31 by omega), cl_nI (show t < 2 ^ 31 by omega), e1, if_neg b1, if_pos b2, if_pos (in_nI (show t < 8 by omega) (by decide))]
        rcases w.ned j t hj (by omega) (by rw [e4]; exact nI_lt (by omega) (by omega)) with q | ⟨o, ho, eo⟩
        · have kn : urf_Nm_isKnown σ (-1) = some 0 := kn0 w.cn (Or.inl (by decide))
          simp only [q, kn, ob_s, if_pos]
          exact next
        · obtain ⟨l, hl, el⟩ := w.lst j t (by omega) (by omega)
          obtain ⟨s, _, _, s1, s2, _, _, _, _, _, _⟩ := ht o ho
          simp only [eo, el, kn1 w.cn (show c ≤ 60 by omega) ho, if_neg (m1_ne (show o < 2 ^ 31 by omega)), ob_s, if_neg one_ne, if_pos (in_nI (show o < 12 by omega) (by decide)), cl_nI (show o < 2 ^ 31 by omega), s1, s2]
          by_cases b : nI l ≤ nI s
          · simp only [if_pos b, ob_s, if_pos]
            exact next
          · simp only [if_neg b, ob_s, if_neg one_ne]
            exact ⟨nI j, rfl, rfl, Or.inr ⟨j, t, o, l, s, rfl, hj, e1, by omega, eo, ho, el, by omega, s1, by
              rcases Nat.lt_or_ge s l with q | q
              · exact q
              · exact absurd (nI_le q (by have := nI_eq (a := s) (b := s); omega)) b⟩⟩
