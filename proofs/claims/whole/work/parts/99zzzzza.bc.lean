/-! texts that agree ahead of their end tell the same -/
section BC
variable {al N : Int} {b c : Int → Int}
theorem sk_c (h : ∀ x, 0 ≤ x → x < N → b x = c x) {i : Int} (hi : 0 ≤ i ∧ i ≤ N) : sk b N i = sk c N i := rn_c hi.2 (fun j x y => by show isBl (b j) ↔ isBl (c j); rw [h j (by omega) y])
theorem teL_c (h : ∀ x, 0 ≤ x → x < N → b x = c x) {i : Int} (hi : 0 ≤ i ∧ i ≤ N) : teL b N i = teL c N i := rn_c hi.2 (fun j x y => by show isLe (b j) ↔ isLe (c j); rw [h j (by omega) y])
theorem teD_c (h : ∀ x, 0 ≤ x → x < N → b x = c x) {i : Int} (hi : 0 ≤ i ∧ i ≤ N) : teD b N i = teD c N i := rn_c hi.2 (fun j x y => by show isDi (b j) ↔ isDi (c j); rw [h j (by omega) y])
theorem te_c (h : ∀ x, 0 ≤ x → x < N → b x = c x) {i : Int} (hi : 0 ≤ i ∧ i < N) : te b N i = te c N i := by
  unfold te
  rw [h i hi.1 hi.2, teL_c h ⟨hi.1, by omega⟩, teD_c h ⟨hi.1, by omega⟩]
theorem wf_c {x i : Int} : ∀ m : Nat, (∀ t : Int, i ≤ t → t < i + m → b t = c t) → wf x b i m = wf x c i m
  | 0, _ => rfl
  | m + 1, h => by
    show x * wf x b i m + (b (i + m) - 96) = x * wf x c i m + (c (i + m) - 96)
    rw [wf_c m (fun t u v => h t u (by omega)), h (i + m) (by omega) (by omega)]
theorem df_c {i : Int} : ∀ m : Nat, (∀ t : Int, i ≤ t → t < i + m → b t = c t) → df b i m = df c i m
  | 0, _ => rfl
  | m + 1, h => by
    show 10 * df b i m + (b (i + m) - 48) = 10 * df c i m + (c (i + m) - 48)
    rw [df_c m (fun t u v => h t u (by omega)), h (i + m) (by omega) (by omega)]
theorem kd_c (h : ∀ x, 0 ≤ x → x < N → b x = c x) {i : Int} (hi : 0 ≤ i ∧ i < N) : kd b N i = kd c N i := by
  have g : i ≤ teL c N i ∧ teL c N i ≤ N := (rn_b (q := fun j => isLe (c j)) (N := N) (i := i) (by omega)).1
  have w : wf 32 b i (teL c N i - i).toNat = wf 32 c i (teL c N i - i).toNat := wf_c _ (fun t u v => h t (by omega) (by omega))
  unfold kd
  rw [h i hi.1 hi.2, teL_c h ⟨hi.1, by omega⟩, teD_c h ⟨hi.1, by omega⟩, w]
theorem tp_c (h : ∀ x, 0 ≤ x → x < N → b x = c x) (hN : 0 ≤ N) : ∀ k : Nat, (∀ j : Nat, j < k → tp b N j < N) → tp b N k = tp c N k
  | 0, _ => sk_c h ⟨Int.le_refl 0, hN⟩
  | k + 1, g => by
    have e := tp_c h hN k (fun j a => g j (by omega))
    have n := tp_nn hN k (fun j a => g j (by omega))
    have l := g k (by omega)
    have t := te_b (b := b) l
    show sk b N (te b N (tp b N k)) = sk c N (te c N (tp c N k))
    rw [← e, ← te_c h ⟨n.1, l⟩]
    exact sk_c h ⟨by omega, t.2⟩
theorem stT_c (h : ∀ x, 0 ≤ x → x < N → b x = c x) (hN : 0 ≤ N) : ∀ (k : Nat) (s : aS), stT al b N k = some s → stT al c N k = some s ∧ ∀ j : Nat, j < k → tp b N j < N
  | 0, _, e => ⟨e, fun j a => absurd a (by omega)⟩
  | k + 1, s, e => by
    obtain ⟨u, v, e1, e2, l, g, m⟩ := stT_at e (j := (k : Int)) ⟨by omega, by omega⟩
    have e1 : stT al b N k = some u := e1
    have l : tp b N k < N := l
    have g : gO al u (kd b N (tp b N k)) = some v := g
    have e2 : stT al b N (k + 1) = some v := e2
    obtain ⟨f1, f2⟩ := stT_c h hN k u e1
    have n := tp_nn hN k f2
    have t := tp_c h hN k f2
    rw [kd_c h ⟨n.1, l⟩, t] at g
    have q : stT al c N (k + 1) = some v := by
      rw [stT_s f1]
      exact nxt_ok (by rw [← t]; exact l) g m
    rw [← e2, e] at q
    refine ⟨q, fun j a => ?_⟩
    by_cases r : j = k
    · rw [r]; exact l
    · exact f2 j (by omega)
theorem tkO_c (h : ∀ x, 0 ≤ x → x < N → b x = c x) (hN : 0 ≤ N) {T : Nat} {r pl : Int} (g : tkO al b N T r pl) : tkO al c N T r pl := by
  obtain ⟨s, e, q⟩ := g
  have k := stT_c h hN T s e
  have t := tp_c h hN T k.2
  have n := tp_nn hN T k.2
  refine ⟨s, k.1, ?_⟩
  rw [← t]
  rcases q with q | q | ⟨q1, q2, q3, q4⟩
  · exact .inl q
  · exact .inr (.inl q)
  · have f : flt al c N T s = flt al b N T s := by
      unfold flt
      rw [← t, kd_c h ⟨n.1, q1⟩]
    exact .inr (.inr ⟨q1, by rw [f]; exact q2, by rw [f]; exact q3, q4⟩)
theorem tok_c (h : ∀ x, 0 ≤ x → x < N → b x = c x) (hN : 0 ≤ N) {T j : Int} (hl : ∀ j, 0 ≤ j → j < T → tp b N j.toNat < N) (hj : 0 ≤ j ∧ j < T) : tp b N j.toNat = tp c N j.toNat ∧ kK b N j = kK c N j ∧ nm32 b N j = nm32 c N j ∧ dfI b N j = dfI c N j := by
  have hl2 : ∀ i : Nat, i < j.toNat → tp b N i < N := fun i a => hl (i : Int) (by omega) (by omega)
  have e := tp_c h hN j.toNat hl2
  have n := tp_nn hN j.toNat hl2
  have l := hl j hj.1 hj.2
  have t := te_b (b := b) l
  refine ⟨e, ?_, ?_, ?_⟩
  · show kd b N (tp b N j.toNat) = kd c N (tp c N j.toNat)
    rw [← e]
    exact kd_c h ⟨n.1, l⟩
  · show wf 32 b (tp b N j.toNat) (te b N (tp b N j.toNat) - tp b N j.toNat).toNat = wf 32 c (tp c N j.toNat) (te c N (tp c N j.toNat) - tp c N j.toNat).toNat
    rw [← e, ← te_c h ⟨n.1, l⟩]
    exact wf_c _ (fun u v w => h u (by omega) (by omega))
  · show df b (tp b N j.toNat) (te b N (tp b N j.toNat) - tp b N j.toNat).toNat = df c (tp c N j.toNat) (te c N (tp c N j.toNat) - tp c N j.toNat).toNat
    rw [← e, ← te_c h ⟨n.1, l⟩]
    exact df_c _ (fun u v w => h u (by omega) (by omega))
/-- the tokens kept, told by the other text -/
def tkC (c : Int → Int) (N T : Int) (K P NU PK : Int → Int) : Prop := ∀ j, 0 ≤ j → j < T → K j = kK c N j ∧ P j = pT c N j ∧ (K j = 6 → NU j = dfI c N j) ∧ (K j = 5 → PK j = nm32 c N j)
theorem tkC_of (h : ∀ x, 0 ≤ x → x < N → b x = c x) (hN : 0 ≤ N) {T : Int} {K P NU PK : Int → Int} (g : tkK b N T K P NU PK) : tkC c N T K P NU PK := fun j x y => by
  have e := tok_c h hN (fun j u v => (g j u v).1) ⟨x, y⟩
  obtain ⟨g1, g2, g3, g4, g5⟩ := g j x y
  exact ⟨g2.trans e.2.1, g3.trans e.1, fun q => (g4 q).trans e.2.2.2, fun q => (g5 q).trans e.2.2.1⟩
end BC
/-! what the words of a text tell, on both sides -/
def wR (K : Int → Int) (T t m dg : Int) (NM : Int → Int) (dp : Int) (NU NM' : Int → Int) (dp' : Int) (NU' : Int → Int) : Prop := 0 ≤ m ∧ (∀ j, 0 ≤ j → j < m → NM j = NM' j) ∧ (¬ dg = 0 → dp = dp') ∧ (∀ j, 0 ≤ j → j < T → K j = 6 → NU j = NU' j) ∧ ∀ j, 0 ≤ j → j < t → K j = 5 → ¬ pvK K j = 2 → NU j = NU' j
def wT (K : Int → Int) (T t : Int) (s s' : wS) : Prop := ∃ (m pr dg : Int) (NM : Int → Int) (dp : Int) (NU NM' : Int → Int) (dp' : Int) (NU' : Int → Int), s = (m, NM, pr, dg, dp, NU) ∧ s' = (m, NM', pr, dg, dp', NU') ∧ wR K T t m dg NM dp NU NM' dp' NU'
section WT
variable {K PL PK K' PL' PK' : Int → Int} {T : Int}
theorem wT_s {i : Int} {s s' : wS} (hi : 0 ≤ i ∧ i < T) (hK : ∀ j, 0 ≤ j → j < T → K j = K' j) (hP : PL i = PL' i) (hPK : K i = 5 → PK i = PK' i) (h6 : pvK K i = 1 ∨ pvK K i = 3 → K i = 6) (hw : wT K T i s s') : (tw K PL PK i s).1 = (tw K' PL' PK' i s').1 ∧ ((tw K PL PK i s).1 = 0 → wT K T (i + 1) (tw K PL PK i s).2 (tw K' PL' PK' i s').2) := by
  obtain ⟨m, pr, dg, NM, dp, NU, NM', dp', NU', rfl, rfl, h0, hN, hdp, hU6, hU5⟩ := hw
  have ek : K' i = K i := (hK i hi.1 hi.2).symm
  have ev : pvK K' i = pvK K i := by
    unfold pvK
    by_cases q : 0 < i
    · rw [if_pos q, if_pos q]; exact (hK (i - 1) (by omega) (by omega)).symm
    · rw [if_neg q, if_neg q]
  by_cases h5 : K i = 5
  · have ef : fd NM' (PK' i) m = fd NM (PK i) m := rn_c h0 (fun j a c => by show ¬ NM' j = PK' i ↔ ¬ NM j = PK i; rw [hN j a c, hPK h5])
    by_cases h2 : pvK K i = 2
    · by_cases g : fd NM (PK i) m < m ∨ 4 ≤ m
      · have g' : fd NM' (PK' i) m < m ∨ 4 ≤ m := by rw [ef]; exact g
        rw [tw_t h5 h2 g, tw_t (ek.trans h5) (ev.trans h2) g']
        exact ⟨rfl, fun q => absurd q (show ¬ (3 : Int) = 0 by decide)⟩
      · have g' : ¬ (fd NM' (PK' i) m < m ∨ 4 ≤ m) := by rw [ef]; exact g
        rw [tw_l h5 h2 g, tw_l (ek.trans h5) (ev.trans h2) g']
        refine ⟨rfl, fun _ => ⟨m + 1, pr, dg, _, _, _, _, _, _, rfl, rfl, by omega, fun j a c => ?_, hdp, hU6, fun j a c k q => ?_⟩⟩
        · by_cases e : j = m
          · rw [e, up_eq, up_eq]; exact hPK h5
          · rw [up_ne e, up_ne e]; exact hN j a (by omega)
        · exact hU5 j a (by
            rcases Int.lt_or_eq_of_le (show j ≤ i by omega) with r | r
            · exact r
            · rw [r] at q; exact absurd h2 q) k q
    · rw [tw_n h5 h2, tw_n (ek.trans h5) (fun q => h2 (ev.symm.trans q)), ef]
      refine ⟨rfl, fun z => ⟨m, pr, dg, _, _, _, _, _, _, rfl, rfl, h0, hN, hdp, fun j a c k => ?_, fun j a c k q => ?_⟩⟩
      · have ne : ¬ j = i := fun r => by rw [r] at k; omega
        rw [nuF_o ne, nuF_o ne]
        exact hU6 j a c k
      · by_cases r : j = i
        · have z : (if fd NM (PK i) m < m then (0 : Int) else 4) = 0 := z
          have l : fd NM (PK i) m < m := Decidable.byContradiction fun w => by rw [if_neg w] at z; omega
          unfold nuF
          rw [if_pos l, if_pos l, r, up_eq, up_eq]
        · rw [nuF_o r, nuF_o r]
          exact hU5 j a (by omega) k q
  · have n5 : ¬ K' i = 5 := fun q => h5 (ek.symm.trans q)
    by_cases h1 : pvK K i = 1
    · have e6 := hU6 i hi.1 hi.2 (h6 (.inl h1))
      rw [tw_1 h5 h1, tw_1 n5 (ev.trans h1), e6]
      exact ⟨rfl, fun _ => ⟨m, NU' i, dg, _, _, _, _, _, _, rfl, rfl, h0, hN, hdp, hU6, fun j a c k q => hU5 j a (by
        rcases Int.lt_or_eq_of_le (show j ≤ i by omega) with r | r
        · exact r
        · rw [r] at k; exact absurd k h5) k q⟩⟩
    · by_cases h3 : pvK K i = 3
      · have e6 := hU6 i hi.1 hi.2 (h6 (.inr h3))
        rw [tw_3 h5 h3, tw_3 n5 (ev.trans h3), e6]
        exact ⟨rfl, fun _ => ⟨m, pr, NU' i, _, _, _, _, _, _, rfl, rfl, h0, hN, fun _ => hP, hU6, fun j a c k q => hU5 j a (by
          rcases Int.lt_or_eq_of_le (show j ≤ i by omega) with r | r
          · exact r
          · rw [r] at k; exact absurd k h5) k q⟩⟩
      · rw [tw_0 h5 h1 h3, tw_0 n5 (fun q => h1 (ev.symm.trans q)) (fun q => h3 (ev.symm.trans q))]
        exact ⟨rfl, fun _ => ⟨m, pr, dg, _, _, _, _, _, _, rfl, rfl, h0, hN, hdp, hU6, fun j a c k q => hU5 j a (by
          rcases Int.lt_or_eq_of_le (show j ≤ i by omega) with r | r
          · exact r
          · rw [r] at k; exact absurd k h5) k q⟩⟩
theorem wT_I {s0 s0' : wS} (hK : ∀ j, 0 ≤ j → j < T → K j = K' j) (hP : ∀ j, 0 ≤ j → j < T → PL j = PL' j) (hPK : ∀ j, 0 ≤ j → j < T → K j = 5 → PK j = PK' j) (h6 : ∀ j, 0 ≤ j → j < T → pvK K j = 1 ∨ pvK K j = 3 → K j = 6) (h0 : wT K T 0 s0 s0') : ∀ k : Nat, (k : Int) ≤ T → twZ K PL PK s0 k ∨ twZ K' PL' PK' s0' k → (twZ K PL PK s0 k ∧ twZ K' PL' PK' s0' k) ∧ wT K T k (twI K PL PK s0 k) (twI K' PL' PK' s0' k)
  | 0, _, _ => ⟨⟨fun j a c => by omega, fun j a c => by omega⟩, h0⟩
  | k + 1, hk, hz => by
    have ih := wT_I hK hP hPK h6 h0 k (by omega) (hz.elim (fun q => .inl (fun j a c => q j a (by omega))) (fun q => .inr (fun j a c => q j a (by omega))))
    have hi : 0 ≤ (k : Int) ∧ (k : Int) < T := by omega
    have st := wT_s hi hK (hP _ hi.1 hi.2) (hPK _ hi.1 hi.2) (h6 _ hi.1 hi.2) ih.2
    have c0 : (tw K PL PK k (twI K PL PK s0 k)).1 = 0 := by
      rcases hz with q | q
      · exact q (k : Int) (by omega) (by omega)
      · rw [st.1]; exact q (k : Int) (by omega) (by omega)
    refine ⟨⟨fun j a c => ?_, fun j a c => ?_⟩, ?_⟩
    · rcases Int.lt_or_eq_of_le (show j ≤ k by omega) with r | r
      · exact ih.1.1 j a r
      · subst r; exact c0
    · rcases Int.lt_or_eq_of_le (show j ≤ k by omega) with r | r
      · exact ih.1.2 j a r
      · subst r; rw [st.1] at c0; exact c0
    · have e := st.2 c0
      rw [show ((k + 1 : Nat) : Int) = (k : Int) + 1 by omega]
      exact e
end WT
/-! a text read, on both sides -/
section RD
variable {b : Int → Int} {N : Int} {T : Nat} {K PL NU0 PK : Int → Int}
theorem rd_tw (hC : tkC b N T K PL NU0 PK) (hs : ∃ s, stT 0 b N T = some s) {NM0 : Int → Int} {dp0 : Int} : ∀ k : Nat, (k : Int) ≤ T → twZ K PL PK (0, NM0, 97, 0, dp0, NU0) k ∨ tZ b N k → (twZ K PL PK (0, NM0, 97, 0, dp0, NU0) k ∧ tZ b N k) ∧ wT K T k (twI K PL PK (0, NM0, 97, 0, dp0, NU0) k) (uT b N k) := by
  have h6 : ∀ j, 0 ≤ j → j < (T : Int) → pvK K j = 1 ∨ pvK K j = 3 → K j = 6 := fun j a c q => by
    by_cases r : 0 < j
    · unfold pvK at q
      rw [if_pos r] at q
      exact g_67 hs (fun i x y => (hC i x y).1) ⟨r, c⟩ q
    · unfold pvK at q
      rw [if_neg r] at q
      omega
  have e := wT_I (K := K) (PL := PL) (PK := PK) (K' := kK b N) (PL' := pT b N) (PK' := nm32 b N) (T := (T : Int)) (s0 := (0, NM0, 97, 0, dp0, NU0)) (s0' := s0P b N) (fun j a c => (hC j a c).1) (fun j a c => (hC j a c).2.1) (fun j a c => (hC j a c).2.2.2) h6 ⟨0, 97, 0, NM0, dp0, NU0, fun _ => 0, 0, dfI b N, rfl, rfl, Int.le_refl 0, fun j a c => by omega, fun q => absurd rfl q, fun j a c q => (hC j a c).2.2.1 q, fun j a c => by omega⟩
  exact e
theorem rW_u {W WP W' WP' t : Int} (h : rW b N t W WP) (g : rW b N t W' WP') : W = W' ∧ WP = WP' := by
  obtain ⟨h1, i, h2, h3, h4, h5⟩ := h
  obtain ⟨g1, j, g2, g3, g4, g5⟩ := g
  have e : i = j := by
    rcases Int.lt_trichotomy i j with q | q | q
    · exact absurd (h4.trans (g3 i h2.1 q)) h1
    · exact q
    · exact absurd (g4.trans (h3 j g2.1 q)) g1
  subst e
  exact ⟨h4.trans g4.symm, h5.trans g5.symm⟩
theorem rW_z {W WP t : Int} (h : rW b N t W WP) (g : tZ b N t) : False := by
  obtain ⟨h1, i, h2, h3, h4, h5⟩ := h
  exact h1 (h4.trans (g i h2.1 h2.2))
theorem rd_w (hC : tkC b N T K PL NU0 PK) (hs : ∃ s, stT 0 b N T = some s) {NM0 : Int → Int} {dp0 r pl : Int} {s : wS} (h : twO K PL PK (0, NM0, 97, 0, dp0, NU0) T r pl s) : (¬ r = 0 ∧ rW b N T r pl) ∨ (r = 0 ∧ pl = -1 ∧ tZ b N T ∧ wT K T T s (uT b N T)) := by
  rcases h with ⟨h1, h2, h3, h4⟩ | ⟨i, h1, h2, h3, h4, h5, h6⟩
  · have e := rd_tw hC hs (NM0 := NM0) (dp0 := dp0) T (Int.le_refl _) (.inl h3)
    rw [h4]
    exact .inr ⟨h1, h2, e.1.2, e.2⟩
  · have ei : ((i.toNat : Nat) : Int) = i := by omega
    have h2' : twZ K PL PK (0, NM0, 97, 0, dp0, NU0) ((i.toNat : Nat) : Int) := by rw [ei]; exact h2
    have e := rd_tw hC hs (NM0 := NM0) (dp0 := dp0) i.toNat (by omega) (.inl h2')
    rw [ei] at e
    have hg : pvK K i = 1 ∨ pvK K i = 3 → K i = 6 := fun q => by
      by_cases r : 0 < i
      · unfold pvK at q
        rw [if_pos r] at q
        exact g_67 hs (fun i x y => (hC i x y).1) ⟨r, h1.2⟩ q
      · unfold pvK at q
        rw [if_neg r] at q
        omega
    have st := wT_s (K := K) (PL := PL) (PK := PK) (K' := kK b N) (PL' := pT b N) (PK' := nm32 b N) h1 (fun j a c => (hC j a c).1) (hC i h1.1 h1.2).2.1 (hC i h1.1 h1.2).2.2.2 hg e.2
    refine .inl ⟨h3, h3, i, h1, e.1.2, h4.trans st.1, h5.trans (hC i h1.1 h1.2).2.1⟩
/-- the laws' sums, told by either side's numbers -/
theorem rd_V {V : Int → Int} {NM : Int → Int} {m pr dg dp : Int} (hC : tkC b N T K PL NU0 PK) (h : wT K T T (m, NM, pr, dg, dp, V) (uT b N T)) : (m = (uT b N T).1 ∧ (∀ j, 0 ≤ j → j < m → NM j = (uT b N T).2.1 j) ∧ pr = (uT b N T).2.2.1 ∧ dg = (uT b N T).2.2.2.1 ∧ (¬ dg = 0 → dp = (uT b N T).2.2.2.2.1)) ∧ ∀ j, 0 ≤ j → j < (T : Int) → (K j = 6 ∨ (K j = 5 ∧ ¬ pvK K j = 2)) → V j = vP b N j := by
  obtain ⟨m', pr', dg', NM', dp', NU', NM2, dp2, NU2, e1, e2, h0, hN, hdp, hU6, hU5⟩ := h
  obtain ⟨q1, q2⟩ := Prod.mk.inj e1
  obtain ⟨q2, q3⟩ := Prod.mk.inj q2
  obtain ⟨q3, q4⟩ := Prod.mk.inj q3
  obtain ⟨q4, q5⟩ := Prod.mk.inj q4
  obtain ⟨q5, q6⟩ := Prod.mk.inj q5
  subst q1 q2 q3 q4 q5 q6
  have hv : ∀ j, 0 ≤ j → j < (T : Int) → NU2 j = vP b N j := fun j a c => by
    have e := uT_v (b := b) (N := N) (t := (T : Int)) ⟨a, c⟩
    rw [e2] at e
    exact e
  rw [e2]
  refine ⟨⟨rfl, hN, rfl, rfl, hdp⟩, fun j a c q => ?_⟩
  rw [← hv j a c]
  rcases q with q | q
  · exact hU6 j a c q
  · exact hU5 j a c q.1 q.2
theorem lw_E {V : Int → Int} (hT : 0 ≤ (T : Int)) (hs : ∃ s, stT 0 b N T = some s ∧ whl 0 s) (hK : ∀ j, 0 ≤ j → j < (T : Int) → K j = kK b N j) (hV : ∀ j, 0 ≤ j → j < (T : Int) → (K j = 6 ∨ (K j = 5 ∧ ¬ pvK K j = 2)) → V j = vP b N j) {i : Int} (hi : 0 ≤ i ∧ i < (T : Int)) (hk : K i = 4) : (∀ n D p, lvV n D p K V T (i + 1) = lvV n D p (kK b N) (vP b N) T (i + 1)) ∧ ∀ D, lwB K D T (i + 1) ↔ lwB (kK b N) D T (i + 1) := by
  obtain ⟨q1, q2, q3, q4⟩ := g_law hs hK hi hk
  have hb := enD_b (K := K) (m := (T : Int)) (fr := i + 1) (by omega)
  have e1 : enD K T (i + 1) = enD (kK b N) T (i + 1) := enD_c (by omega) (fun j a c => hK j (by omega) c)
  have ek : K (enD K T (i + 1)) = kK b N (enD K T (i + 1)) := hK _ (by omega) q1
  have pv : ∀ j, i + 1 ≤ j → j < (T : Int) → (¬ K (j - 1) = 2) → ¬ pvK K j = 2 := fun j a c q => by
    unfold pvK
    rw [if_pos (by omega)]
    exact q
  have h1 : ∀ j, i + 1 ≤ j → j < enD K T (i + 1) → K j = 5 ∨ K j = 6 → V j = vP b N j := fun j a c k => hV j (by omega) (by omega) (by
    rcases k with k | k
    · refine .inr ⟨k, pv j a (by omega) (fun r => ?_)⟩
      by_cases w : j - 1 = i
      · rw [w] at r; omega
      · have := q3 (j - 1) (by omega) (by omega); omega
    · exact .inl k)
  have v1 : ∀ n D p, evV n D p K V T (i + 1) = evV n D p (kK b N) (vP b N) T (i + 1) := fun n D p => evV_c (by omega) (fun j a c => hK j (by omega) c) h1
  have l1 : lgV K T (i + 1) = lgV (kK b N) T (i + 1) := lgV_c (by omega) (fun j a c => hK j (by omega) c)
  by_cases c8 : K (enD K T (i + 1)) = 8
  · have h8 := q4 c8
    have hb2 := enD_b (K := K) (m := (T : Int)) (fr := enD K T (i + 1) + 1) (by omega)
    have h2 : ∀ j, enD K T (i + 1) + 1 ≤ j → j < enD K T (enD K T (i + 1) + 1) → K j = 5 ∨ K j = 6 → V j = vP b N j := fun j a c k => hV j (by omega) (by omega) (by
      rcases k with k | k
      · refine .inr ⟨k, pv j (by omega) (by omega) (fun r => ?_)⟩
        by_cases w : j - 1 = enD K T (i + 1)
        · rw [w] at r; omega
        · have := h8.2 (j - 1) (by omega) (by omega); omega
      · exact .inl k)
    have v2 : ∀ n D p, evV n D p K V T (enD K T (i + 1) + 1) = evV n D p (kK b N) (vP b N) T (enD K T (i + 1) + 1) := fun n D p => evV_c (by omega) (fun j a c => hK j (by omega) c) h2
    have l2 : lgV K T (enD K T (i + 1) + 1) = lgV (kK b N) T (enD K T (i + 1) + 1) := lgV_c (by omega) (fun j a c => hK j (by omega) c)
    refine ⟨fun n D p => ?_, fun D => ?_⟩
    · funext x
      rw [lvV_8 c8, lvV_8 (by rw [← e1, ← ek]; exact c8), ← e1, v1, v2]
    · unfold lwB
      rw [← e1, ← ek, l1, l2]
  · refine ⟨fun n D p => ?_, fun D => ?_⟩
    · funext x
      rw [lvV_0 c8, lvV_0 (by rw [← e1, ← ek]; exact c8), v1]
    · unfold lwB
      rw [← e1, ← ek, l1]
      exact ⟨fun q => q.elim .inl (fun r => absurd r.1 c8), fun q => q.elim .inl (fun r => absurd r.1 c8)⟩
theorem cLw_c {K K' : Int → Int} {i : Int} (h : ∀ j, 0 ≤ j → j < i → K j = K' j) : cLw K i = cLw K' i := sm_ext _ (fun j a c => by
  show (if K j = 4 then (1 : Int) else 0) = (if K' j = 4 then (1 : Int) else 0)
  rw [h j a (by omega)])
theorem lkQ_E {V LG LR : Int → Int} {n D p : Int} (hs : ∃ s, stT 0 b N T = some s ∧ whl 0 s) (hK : ∀ j, 0 ≤ j → j < (T : Int) → K j = kK b N j) (hV : ∀ j, 0 ≤ j → j < (T : Int) → (K j = 6 ∨ (K j = 5 ∧ ¬ pvK K j = 2)) → V j = vP b N j) (h : lkQ n D p K V T LG LR T) : lkQ n D p (kK b N) (vP b N) T LG LR T := fun j a c k => by
  have k4 : K j = 4 := (hK j a c).trans k
  have e := lw_E (Int.natCast_nonneg T) hs hK hV ⟨a, c⟩ k4
  have g := h j a c k4
  rw [e.1 n D p, cLw_c (K := K) (K' := kK b N) (i := j) (fun x u v => hK x u (by omega))] at g
  exact ⟨fun q => g.1 ((e.2 D).mpr q), g.2⟩
theorem lkG_E {V : Int → Int} {n D p : Int} (hs : ∃ s, stT 0 b N T = some s ∧ whl 0 s) (hK : ∀ j, 0 ≤ j → j < (T : Int) → K j = kK b N j) (hV : ∀ j, 0 ≤ j → j < (T : Int) → (K j = 6 ∨ (K j = 5 ∧ ¬ pvK K j = 2)) → V j = vP b N j) {j : Int} (hj : 0 ≤ j ∧ j < (T : Int)) (k4 : K j = 4) : lkG n D p K V T j ↔ lkG n D p (kK b N) (vP b N) T j := by
  have e := lw_E (Int.natCast_nonneg T) hs hK hV hj k4
  unfold lkG
  rw [e.1 n D p, e.2 D]
theorem lkQ_gg {V LG LR : Int → Int} {n D p m : Int} (h : lkQ n D p K V m LG LR m) : ∀ j, 0 ≤ j → j < m → K j = 4 → lkG n D p K V m j := fun j a c k => ⟨(h j a c k).1, _, (h j a c k).2.1⟩
end RD
theorem lvV_bd {n D p m fr x : Int} {K V : Int → Int} (hp : 0 < p) (hx : 0 ≤ x ∧ x < 364) : 0 ≤ lvV n D p K V m fr x ∧ lvV n D p K V m fr x < p := by
  by_cases c : K (enD K m fr) = 8
  · rw [lvV_8 c]
    exact ⟨Int.emod_nonneg _ (by omega), Int.emod_lt_of_pos _ hp⟩
  · rw [lvV_0 c]
    exact evV_b hp hx
theorem eL_of {n D p T : Int} {K V LG LR lg lr : Int → Int} (hO : sOk n D p) (hT : 0 ≤ T) (h1 : lkQ n D p K V T LG LR T) (h2 : lkQ n D p K V T lg lr T) : eL n D p (cLw K T) LG LR lg lr := fun i a b => by
  obtain ⟨j, hj, k4, e⟩ := cLw_ex (K := K) (k := i) T.toNat a (by rw [show ((T.toNat : Nat) : Int) = T by omega]; exact b)
  obtain ⟨_, f1, f2⟩ := h1 j hj.1 (by omega) k4
  obtain ⟨_, g1, g2⟩ := h2 j hj.1 (by omega) k4
  rw [e] at f1 f2 g1 g2
  have el := hmQ_u f1 g1
  have hp : 0 < p := by have := hO.2.2.2.1; omega
  have hS := sS_b (k := D + 1) hO
  refine ⟨el, f1.1, fun q => ?_, fun w w0 w1 => ?_⟩
  · have nz : ¬ ∀ x, 0 ≤ x → x < sS n D (D + 1) → lvV n D p K V T (j + 1) x = 0 := fun z => by have := f1.2.2 z; omega
    obtain ⟨x, x0, x1, x2⟩ : ∃ x, 0 ≤ x ∧ x < sS n D (D + 1) ∧ ¬ lvV n D p K V T (j + 1) x = 0 := Classical.byContradiction fun c => nz (fun x x0 x1 => Classical.byContradiction fun y => c ⟨x, x0, x1, y⟩)
    have sl := (f1.2.1 x x0 x1 x2).1
    obtain ⟨d, w, d0, d1, w0, w1, ex⟩ := sL_ex hO x0 x1
    have sd : sL n D x = d := by rw [ex]; exact sL_word hO d0 ⟨w0, w1⟩
    have ed : d = LG i := by omega
    have hw : 0 ≤ w ∧ w < sW n D (LG i) := by rw [← ed]; exact ⟨w0, w1⟩
    refine ⟨?_, w, hw, ?_⟩
    · rcases Int.lt_or_le 0 n with r | r
      · exact r
      · exfalso
        have n0 : n = 0 := by have := hO.1.1; omega
        rw [n0, sW_n0 (by omega)] at hw
        omega
    · have bd := lvV_bd (n := n) (D := D) (K := K) (V := V) (m := T) (fr := j + 1) (x := x) hp ⟨x0, by omega⟩
      rw [f2 w hw.1 hw.2, ← ed, ← ex, Int.emod_eq_of_lt bd.1 bd.2]
      exact x2
  · rw [f2 w w0 w1, g2 w w0 (by rw [← el]; exact w1), el]
theorem eL_c {n D p m : Int} {LN LR ln lr ln' lr' : Int → Int} (h : eL n D p m LN LR ln lr) (hO : sOk n D p) (e : ∀ i, 0 ≤ i → i < m → ln' i = ln i ∧ ∀ w, 0 ≤ w → w < 256 → lr' (i * 256 + w) = lr (i * 256 + w)) : eL n D p m LN LR ln' lr' := fun i a b => by
  obtain ⟨h1, h2, h3, h4⟩ := h i a b
  have hW := sW_b (k := LN i) hO
  exact ⟨h1.trans (e i a b).1.symm, h2, h3, fun w w0 w1 => (h4 w w0 w1).trans ((e i a b).2 w w0 (by omega)).symm⟩
theorem eQ_c {q n D p m : Int} {LW : Int → (Int → Int) → Prop} {ln ln' rs rw_ ld sz : Int → Int} (h : eQ q n D p m LW ln rs rw_ ld sz) (e : ∀ i, 0 ≤ i → i < m → ln' i = ln i) : eQ q n D p m LW ln' rs rw_ ld sz := by
  have k : (∀ i, 0 ≤ i → i < m → ln' i = 0 ∨ ln' i = 2) ↔ ∀ i, 0 ≤ i → i < m → ln i = 0 ∨ ln i = 2 := ⟨fun g i a b => by rw [← e i a b]; exact g i a b, fun g i a b => by rw [e i a b]; exact g i a b⟩
  rcases h with ⟨a, b, c⟩ | ⟨a, b⟩
  · exact .inl ⟨a, k.mpr b, c⟩
  · exact .inr ⟨a, fun g => b (k.mp g)⟩
theorem eN_c {n : Int} {A B B' : Int → Int} (h : eN n A B) (e : ∀ j, 0 ≤ j → j < n → B' j = B j) : eN n A B' := fun j a b => by
  rw [e j a b]; exact h j a b
