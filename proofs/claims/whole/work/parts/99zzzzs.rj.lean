/-! a statement told, as one step of the reading -/
def rdJ (b : Int → Int) (N si : Int) (s : aS) (t o C W WP DT : Int) (CO CI LET NO PRI DEG LAW LT LF LM LO LG : Int → Int) : Prop := (s.1 = 0 ∧ s.2.1 = 0) ∧ auB s ∧ o = 0 ∧ (0 ≤ C ∧ C ≤ 2 * t) ∧ (0 ≤ LET si ∧ LET si ≤ 4) ∧ s.2.2.1 = LET si ∧ (∀ j, 0 ≤ j → j < LET si → i64 (NO (4 * si + j))) ∧ (0 ≤ W ∧ W ≤ 5) ∧ (¬ W = 0 → 0 ≤ WP ∧ WP < pM b N t) ∧ ((0 ≤ LAW si ∧ LAW si ≤ 8) ∧ s.2.2.2.1 = LAW si) ∧ rI b N t W WP (LET si) (fun j => NO (4 * si + j)) (PRI si) (DEG si) DT C CO CI LT LF LM LO LG
theorem tp_0 {al N j t : Int} {b : Int → Int} {s : aS} (hN : 0 ≤ N) (h : stT al b N t.toNat = some s) (hj : 0 ≤ j ∧ j ≤ t) : 0 ≤ tp b N j.toNat ∧ tp b N j.toNat ≤ N := tp_nn hN j.toNat (fun i a => by
  have e := stT_lt2 h (i : Int) (by omega) (by omega)
  rw [show ((i : Int)).toNat = i by omega] at e
  exact e)
theorem wr_bd {bad : Prop} {W0 P0 pl W P A Z : Int} (h : wrQ bad W0 P0 5 pl W P) (h0 : 0 ≤ W0 ∧ W0 ≤ 5) (hP : ¬ W0 = 0 → 0 ≤ P0 ∧ P0 < A) (hA : A ≤ Z) (hp : 0 ≤ pl ∧ pl < Z) : (0 ≤ W ∧ W ≤ 5) ∧ (¬ W = 0 → 0 ≤ P ∧ P < Z) := by
  rcases h with ⟨a, c, d⟩ | ⟨a, c, d, e⟩ | ⟨a, c, d, e⟩
  · exact ⟨by omega, fun _ => by have := hP a; omega⟩
  · exact ⟨by omega, fun q => absurd d q⟩
  · exact ⟨by omega, fun _ => by omega⟩
theorem wl_bd {NM : Int → Int} {x i W0 P0 pl W P A Z : Int} (h : wlQ NM x i W0 P0 pl W P) (h0 : 0 ≤ W0 ∧ W0 ≤ 5) (hP : ¬ W0 = 0 → 0 ≤ P0 ∧ P0 < A) (hA : A ≤ Z) (hp : 0 ≤ pl ∧ pl < Z) : (0 ≤ W ∧ W ≤ 5) ∧ (¬ W = 0 → 0 ≤ P ∧ P < Z) := by
  rcases h with ⟨a, c, d⟩ | ⟨a, c, d, e⟩ | ⟨a, c, d, e⟩
  · exact ⟨by omega, fun _ => by have := hP a; omega⟩
  · exact ⟨by omega, fun q => absurd c q⟩
  · exact ⟨by omega, fun _ => by omega⟩
theorem fr_l {al N t : Int} {b : Int → Int} {s : aS} (ht : 0 ≤ t) (h : stT al b N t.toNat = some s) : s.2.2.2.1 = cLw (kK b N) t := by
  have e := (stT_fr h (K := kK b N) (fun _ _ _ => rfl) t.toNat s (Nat.le_refl _) h).2
  rw [show ((t.toNat : Nat) : Int) = t by omega] at e
  exact e
theorem tl_step {b : Int → Int} {N si o_codes o_open o_t o_fault o_faultPlace o_worst o_worstPlace o_degreeToken n_codes n_open n_t n_fault n_faultPlace n_worst n_worstPlace n_degreeToken : Int} {o_code o_codeInt o_lawToken o_lawFrom o_lawLong o_lawMid o_lawTo o_laws o_nameOf o_letters o_prime o_degree n_code n_codeInt n_lawToken n_lawFrom n_lawLong n_lawMid n_lawTo n_laws n_nameOf n_letters n_prime n_degree : Int → Int} {s : aS} (hN : 0 ≤ N) (hm0 : mO 0 b N s o_t o_fault o_faultPlace) (hF : o_fault = 0) (J : rdJ b N si s o_t o_open o_codes o_worst o_worstPlace o_degreeToken o_code o_codeInt o_letters o_nameOf o_prime o_degree o_laws o_lawToken o_lawFrom o_lawMid o_lawTo o_lawLong) (h : (¬ n_fault = 0 ∧ (∃ s9, mO 0 b N s9 n_t n_fault n_faultPlace)) ∨ (n_fault = 0 ∧ (((tp b N (o_t).toNat < N ∧ kK b N (o_t) = 1) ∧ (tp b N (o_t + 1).toNat < N ∧ kK b N (o_t + 1) = 6) ∧ (tp b N (o_t + 2).toNat < N ∧ kK b N (o_t + 2) = 7) ∧ n_t = o_t + 3 ∧ mO 0 b N (0, s.2) n_t n_fault n_faultPlace ∧ n_prime = up o_prime (si) (dfI b N (o_t + 1)) ∧ wrQ (¬ sPr (dfI b N (o_t + 1))) (o_worst) (o_worstPlace) 5 (tp b N (o_t + 1).toNat) n_worst n_worstPlace ∧ n_letters = o_letters ∧ n_nameOf = o_nameOf ∧ n_laws = o_laws ∧ n_degree = o_degree ∧ n_degreeToken = o_degreeToken ∧ n_codes = o_codes ∧ n_open = o_open ∧ n_lawToken = o_lawToken ∧ n_lawFrom = o_lawFrom ∧ n_lawLong = o_lawLong ∧ n_lawMid = o_lawMid ∧ n_lawTo = o_lawTo ∧ n_code = o_code ∧ n_codeInt = o_codeInt) ∨ ((tp b N (o_t).toNat < N ∧ kK b N (o_t) = 2) ∧ (tp b N (o_t + 1).toNat < N ∧ kK b N (o_t + 1) = 5) ∧ (tp b N (o_t + 2).toNat < N ∧ kK b N (o_t + 2) = 7) ∧ n_t = o_t + 3 ∧ mO 0 b N (0, s.2.1, s.2.2.1 + 1, s.2.2.2) n_t n_fault n_faultPlace ∧ n_nameOf = up o_nameOf (4 * si + o_letters (si)) (nm27 b N ((o_t + 1))) ∧ n_letters = up o_letters (si) (o_letters (si) + 1) ∧ wlQ (fun j => o_nameOf (4 * si + j)) (nm27 b N ((o_t + 1))) (o_letters (si)) (o_worst) (o_worstPlace) (tp b N (o_t + 1).toNat) n_worst n_worstPlace ∧ n_prime = o_prime ∧ n_degree = o_degree ∧ n_degreeToken = o_degreeToken ∧ n_laws = o_laws ∧ n_codes = o_codes ∧ n_open = o_open ∧ n_lawToken = o_lawToken ∧ n_lawFrom = o_lawFrom ∧ n_lawLong = o_lawLong ∧ n_lawMid = o_lawMid ∧ n_lawTo = o_lawTo ∧ n_code = o_code ∧ n_codeInt = o_codeInt) ∨ ((tp b N (o_t).toNat < N ∧ kK b N (o_t) = 3) ∧ (tp b N (o_t + 1).toNat < N ∧ kK b N (o_t + 1) = 6) ∧ (tp b N (o_t + 2).toNat < N ∧ kK b N (o_t + 2) = 7) ∧ n_t = o_t + 3 ∧ mO 0 b N (0, s.2) n_t n_fault n_faultPlace ∧ n_degree = up o_degree (si) (dfI b N (o_t + 1)) ∧ n_degreeToken = (o_t + 1) ∧ wrQ (¬ (1 ≤ (dfI b N (o_t + 1)) ∧ (dfI b N (o_t + 1)) ≤ 7)) (o_worst) (o_worstPlace) 5 (tp b N (o_t + 1).toNat) n_worst n_worstPlace ∧ n_letters = o_letters ∧ n_nameOf = o_nameOf ∧ n_laws = o_laws ∧ n_prime = o_prime ∧ n_codes = o_codes ∧ n_open = o_open ∧ n_lawToken = o_lawToken ∧ n_lawFrom = o_lawFrom ∧ n_lawLong = o_lawLong ∧ n_lawMid = o_lawMid ∧ n_lawTo = o_lawTo ∧ n_code = o_code ∧ n_codeInt = o_codeInt) ∨ ((tp b N (o_t).toNat < N ∧ kK b N (o_t) = 4) ∧ (n_fault = 0 ∧ n_open = 0 ∧ (∃ e9, (e9 = 0 ∨ e9 = 1) ∧ mO 0 b N (0, 0, s.2.2.1, s.2.2.2.1 + 1, e9) n_t n_fault n_faultPlace) ∧ (0 ≤ n_codes ∧ n_codes ≤ 2 * n_t) ∧ wU b N (fun j => o_nameOf (4 * si + j)) (o_letters (si)) (o_t + 1) n_t (o_worst) (o_worstPlace) n_worst n_worstPlace ∧ ((0 ≤ n_worst ∧ n_worst ≤ 5) ∧ (¬ n_worst = 0 → 0 ≤ n_worstPlace ∧ n_worstPlace < pM b N n_t)) ∧ n_laws = up o_laws (si) ((o_laws (si)) + 1) ∧ n_lawToken = up o_lawToken (o_laws (si)) (o_t) ∧ n_lawFrom = up o_lawFrom (o_laws (si)) (o_codes) ∧ (∃ mid to lg, n_lawMid = up o_lawMid (o_laws (si)) mid ∧ n_lawTo = up o_lawTo (o_laws (si)) to ∧ n_lawLong = up o_lawLong (o_laws (si)) lg ∧ to = n_codes ∧ lwM (kK b N) (vM b N (fun j => o_nameOf (4 * si + j)) (o_letters (si))) (o_letters (si)) n_worst n_code n_codeInt (o_t) n_t (o_codes) mid to lg) ∧ cuQ (o_codes) o_code o_codeInt n_code n_codeInt) ∧ n_nameOf = o_nameOf ∧ n_letters = o_letters ∧ n_prime = o_prime ∧ n_degree = o_degree ∧ n_degreeToken = o_degreeToken)))) : ∃ s9, mO 0 b N s9 n_t n_fault n_faultPlace ∧ (n_fault = 0 → o_t < n_t) ∧ (n_fault = 0 → rdJ b N si s9 n_t n_open n_codes n_worst n_worstPlace n_degreeToken n_code n_codeInt n_letters n_nameOf n_prime n_degree n_laws n_lawToken n_lawFrom n_lawMid n_lawTo n_lawLong) := by
  have ht := hm0.1
  have hst := mo_st hm0 hF
  obtain ⟨⟨j1, j2⟩, jB, jo, jC, jl, j3, jn, jw, jp, ⟨jk, j4⟩, jI⟩ := J
  rcases h with ⟨f, s9, m⟩ | ⟨f, h⟩
  · exact ⟨s9, m, fun q => absurd q f, fun q => absurd q f⟩
  rcases h with h | h | h | h
  · obtain ⟨⟨a1, a2⟩, ⟨a3, a4⟩, ⟨a5, a6⟩, a7, a8, a9, b1, c1, c2, c3, c4, c5, c6, c7, c8, c9, c10, c11, c12, c13, c14⟩ := h
    refine ⟨_, a8, fun _ => by omega, fun _ => ?_⟩
    · have hw9 : (0 ≤ n_worst ∧ n_worst ≤ 5) ∧ (¬ n_worst = 0 → 0 ≤ n_worstPlace ∧ n_worstPlace < pM b N (o_t + 3)) := by
        have u1 := tp_up ht.1 a1
        have u2 := tp_up (show 0 ≤ o_t + 1 by omega) a3
        have u3 := tp_up (show 0 ≤ o_t + 2 by omega) a5
        rw [show o_t + 1 + 1 = o_t + 2 by omega] at u2
        rw [show o_t + 2 + 1 = o_t + 3 by omega] at u3
        have p1 : pM b N (o_t + 1) = tp b N (o_t + 1).toNat := if_neg (by omega)
        have p2 := tp_0 (j := o_t + 1) hN (mo_st a8 f) (by omega)
        exact wr_bd b1 jw jp (by omega) (by omega)
      unfold rdJ
      rw [a7, a9, c1, c2, c3, c4, c5, c6, c7, c8, c9, c10, c11, c12, c13, c14, up_eq]
      exact ⟨⟨rfl, j2⟩, aB_d jB (by decide), jo, by omega, jl, j3, jn, hw9.1, hw9.2, ⟨jk, j4⟩, r_pr ht.1 jI a2 a4 a6 rfl b1⟩
  · obtain ⟨⟨a1, a2⟩, ⟨a3, a4⟩, ⟨a5, a6⟩, a7, a8, a9, b0, b1, c1, c2, c3, c4, c5, c6, c7, c8, c9, c10, c11, c12, c13⟩ := h
    have hB9 := stT_B (mo_st a8 f)
    have hl9 : o_letters si + 1 ≤ 4 := by
      have e := hB9.2.2.1.2
      have e2 : s.2.2.1 + 1 ≤ 4 := e
      omega
    refine ⟨_, a8, fun _ => by omega, fun _ => ?_⟩
    · have hw9 : (0 ≤ n_worst ∧ n_worst ≤ 5) ∧ (¬ n_worst = 0 → 0 ≤ n_worstPlace ∧ n_worstPlace < pM b N (o_t + 3)) := by
        have u1 := tp_up ht.1 a1
        have u2 := tp_up (show 0 ≤ o_t + 1 by omega) a3
        have u3 := tp_up (show 0 ≤ o_t + 2 by omega) a5
        rw [show o_t + 1 + 1 = o_t + 2 by omega] at u2
        rw [show o_t + 2 + 1 = o_t + 3 by omega] at u3
        have p1 : pM b N (o_t + 1) = tp b N (o_t + 1).toNat := if_neg (by omega)
        have p2 := tp_0 (j := o_t + 1) hN (mo_st a8 f) (by omega)
        exact wl_bd b1 jw jp (by omega) (by omega)
      unfold rdJ
      rw [a7, a9, b0, c1, c2, c3, c4, c5, c6, c7, c8, c9, c10, c11, c12, c13, up_eq]
      refine ⟨⟨rfl, j2⟩, hB9, jo, by omega, by omega, by show s.2.2.1 + 1 = _; omega, fun j x y => ?_, hw9.1, hw9.2, ⟨jk, j4⟩, r_le ht.1 jI a2 a4 a6 a3 ⟨jl.1, by omega⟩ b1 (fun j x y => ?_) ?_⟩
      · by_cases q : j = o_letters si
        · rw [q, up_eq]; exact nm27_b a3 a4
        · rw [up_ne (by omega)]; exact jn j x (by omega)
      · exact up_ne (by omega)
      · exact up_eq _ _ _
  · obtain ⟨⟨a1, a2⟩, ⟨a3, a4⟩, ⟨a5, a6⟩, a7, a8, a9, b0, b1, c1, c2, c3, c4, c5, c6, c7, c8, c9, c10, c11, c12, c13⟩ := h
    refine ⟨_, a8, fun _ => by omega, fun _ => ?_⟩
    · have hw9 : (0 ≤ n_worst ∧ n_worst ≤ 5) ∧ (¬ n_worst = 0 → 0 ≤ n_worstPlace ∧ n_worstPlace < pM b N (o_t + 3)) := by
        have u1 := tp_up ht.1 a1
        have u2 := tp_up (show 0 ≤ o_t + 1 by omega) a3
        have u3 := tp_up (show 0 ≤ o_t + 2 by omega) a5
        rw [show o_t + 1 + 1 = o_t + 2 by omega] at u2
        rw [show o_t + 2 + 1 = o_t + 3 by omega] at u3
        have p1 : pM b N (o_t + 1) = tp b N (o_t + 1).toNat := if_neg (by omega)
        have p2 := tp_0 (j := o_t + 1) hN (mo_st a8 f) (by omega)
        exact wr_bd b1 jw jp (by omega) (by omega)
      unfold rdJ
      rw [a7, a9, b0, c1, c2, c3, c4, c5, c6, c7, c8, c9, c10, c11, c12, c13, up_eq]
      exact ⟨⟨rfl, j2⟩, aB_d jB (by decide), jo, by omega, jl, j3, jn, hw9.1, hw9.2, ⟨jk, j4⟩, r_dg ht.1 jI a2 a4 a6 rfl b1⟩
  · obtain ⟨⟨a1, a2⟩, ⟨_, o9, ⟨e9, he9, m⟩, hC, hU, ⟨hw, hp⟩, lw, lt, lf, ⟨mid, to, lg, lm, lo, ll, eto, rc9⟩, cu⟩, c1, c2, c3, c4, c5⟩ := h
    have hB9 := stT_B (mo_st m f)
    have hl9 : o_laws si + 1 ≤ 8 := by
      have e2 : s.2.2.2.1 + 1 ≤ 8 := hB9.2.2.2.1.2
      omega
    have hq := fr_l ht.1 hst
    refine ⟨_, m, fun _ => by have := lwM_k rc9; omega, fun _ => ?_⟩
    unfold rdJ
    rw [lw, c1, c2, c3, c4, c5, up_eq]
    exact ⟨⟨rfl, rfl⟩, hB9, o9, hC, jl, j3, jn, hw, hp, ⟨by omega, by show s.2.2.2.1 + 1 = _; omega⟩, r_lw ht.1 jI jl.1 (fun j x y => stT_lt2 (mo_st m f) j x y) hU rc9 (by omega) lt lf lm lo ll eto cu⟩
