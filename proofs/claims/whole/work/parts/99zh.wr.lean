/-! ranks, centre, chains: told by the leading words, whoever holds them -/
section WRC
variable {n D p : Int}
theorem szL_c {L L' : Int → Int} {d : Int} (hO : sOk n D p) (hd : 0 ≤ d) (h : ∀ x, 0 ≤ x → x < sS n D (d + 1) → L x = L' x) : szL L n D d = szL L' n D d := by
  have e := sS_succ (n := n) (D := D) hd
  have e2 := sS_nn (n := n) (D := D) (k := d) hO.1.1
  exact sm_ext _ (fun w a b => by rw [h (sS n D d + w) (by omega) (by omega)])
theorem nth_cL {L L' : Int → Int} {d : Int} (hO : sOk n D p) (hd : 0 ≤ d) (h : ∀ x, 0 ≤ x → x < sS n D (d + 1) → L x = L' x) : (fun i => nth (fun v => bI (L (sS n D d + v) = 0)) i (sW n D d).toNat) = fun i => nth (fun v => bI (L' (sS n D d + v) = 0)) i (sW n D d).toNat := by
  have e := sS_succ (n := n) (D := D) hd
  have e2 := sS_nn (n := n) (D := D) (k := d) hO.1.1
  funext i
  exact nth_c i _ (fun w a b => by rw [h (sS n D d + w) (by omega) (by omega)])
theorem okC_c {L L' : Int → Int} {d i j : Int} (hO : sOk n D p) (h : ∀ x, 0 ≤ x → x < sS n D (d + 1) → L x = L' x) (hd : d ≤ D) (hi : 0 ≤ i ∧ i < sS n D (D + 1)) (hj : 0 ≤ j ∧ j < sS n D (D + 1)) (hs : sL n D i + sL n D j ≤ d) : okC L n D i j ↔ okC L' n D i j := by
  by_cases g : 1 ≤ sL n D i ∧ 1 ≤ sL n D j ∧ sL n D i + sL n D j ≤ D
  · have e1 := (sL_lt hO hj.1 hj.2 (show 0 ≤ sL n D j by omega)).mpr (Int.le_refl _)
    have m1 := sS_mono (n := n) (D := D) hO.1.1 (show sL n D j + 1 ≤ d + 1 by omega)
    have hb := bAt_in hO hi hj g.2.2
    have hww := sL_w hO hi.1 hi.2
    have hwv := sL_w hO hj.1 hj.2
    have hbd := dv_in (W := sW n D (sL n D j)) (n := sW n D (sL n D i)) hwv.2.2.1 hwv.2.2.2 hww.2.2.1 hww.2.2.2
    have hws : sW n D (sL n D i + sL n D j) = sW n D (sL n D i) * sW n D (sL n D j) := sW_add (by omega) (by omega) g.2.2
    have hbe : bAt n D i j - sS n D (sL n D i + sL n D j) = (i - sS n D (sL n D i)) * sW n D (sL n D j) + (j - sS n D (sL n D j)) := by unfold bAt; omega
    have hw0 : 0 ≤ bAt n D i j - sS n D (sL n D i + sL n D j) ∧ bAt n D i j - sS n D (sL n D i + sL n D j) < sW n D (sL n D i + sL n D j) := by rw [hbe, hws, Int.mul_comm (sW n D (sL n D i))]; exact hbd
    have hwd := wd_lt hO (show 1 ≤ sL n D i + sL n D j by omega) hw0
    have a1 := sS_word hO (show 0 ≤ sL n D i + sL n D j by omega) hw0
    have a2 := sS_word hO (show 0 ≤ sL n D i + sL n D j - 1 by omega) hwd.2.2.1
    have m2 := sS_mono (n := n) (D := D) hO.1.1 (show sL n D i + sL n D j + 1 ≤ d + 1 by omega)
    have m3 := sS_mono (n := n) (D := D) hO.1.1 (show sL n D i + sL n D j - 1 + 1 ≤ d + 1 by omega)
    unfold okC okE
    rw [h j hj.1 (by omega), h _ a1.1 (by omega), h _ a2.1 (by omega)]
  · exact ⟨fun q => absurd q.1 g, fun q => absurd q.1 g⟩
theorem chS_c {L L' : Int → Int} {d : Int} (hO : sOk n D p) (h : ∀ x, 0 ≤ x → x < sS n D (d + 1) → L x = L' x) (hd : d ≤ D) : ∀ (s : Nat) (t j : Int), t ≤ d → 0 ≤ j → j < sS n D (D + 1) → chS L n D s t j = chS L' n D s t j
  | 0, t, j, ht, h0, h1 => by
    show (if t = 1 ∧ sL n D j = 1 ∧ L j = 0 then (1 : Int) else 0) = (if t = 1 ∧ sL n D j = 1 ∧ L' j = 0 then (1 : Int) else 0)
    by_cases g : t = 1 ∧ sL n D j = 1
    · have e1 := (sL_lt hO h0 h1 (show (0 : Int) ≤ 1 by decide)).mpr (by omega)
      have m1 := sS_mono (n := n) (D := D) hO.1.1 (show (1 : Int) + 1 ≤ d + 1 by omega)
      rw [h j h0 (by omega)]
    · rw [if_neg (fun q => g ⟨q.1, q.2.1⟩), if_neg (fun q => g ⟨q.1, q.2.1⟩)]
  | s + 1, t, j, ht, h0, h1 => by
    refine sm_ext _ (fun i a b => ?_)
    show (if okC L n D i j then chS L n D s (t - sL n D j) i else 0) = (if okC L' n D i j then chS L' n D s (t - sL n D j) i else 0)
    have hS := sS_b (k := D + 1) hO
    have hb : i < sS n D (D + 1) := by omega
    have e := chS_c hO h hd s (t - sL n D j) i (by have := (sL_b n D j).1; omega) a hb
    by_cases g : t - sL n D j < sL n D i
    · rw [ch_z s _ i g, ch_z s _ i g]
      split <;> split <;> rfl
    · have hk := okC_c hO h hd ⟨a, hb⟩ ⟨h0, h1⟩ (show sL n D i + sL n D j ≤ d by omega)
      by_cases c : okC L n D i j
      · rw [if_pos c, if_pos (hk.mp c)]; exact e
      · rw [if_neg c, if_neg (fun q => c (hk.mpr q))]
def rkF (n D p : Int) (LW : Int → (Int → Int) → Prop) (d x e : Int) (U : Int → Int) (m r : Int) : Prop := ∃ (A : Int → Int → Int) (N : Int) (IK KR : Int → Int), raM n D p LW d x e U A m ∧ rkI p IK KR A m N r ∧ R01 IK ∧ N ≤ sW n D (d + 1) ∧ (N = sW n D (d + 1) ∨ m ≤ r)
def ceF (n D p : Int) (LW : Int → (Int → Int) → Prop) (d : Int) (U : Int → Int) (m r : Int) : Prop := ∃ (A : Int → Int → Int) (R : Int) (IK KR : Int → Int), ceR n D p LW d U (fun i c => A i c % p) m ∧ rkC p IK KR A m (n * sW n D (d + 1)) R ∧ R01 IK ∧ r = m - R
theorem nth_in {L : Int → Int} {d i : Int} (h0 : 0 ≤ i) (hi : i < szL L n D d) : 0 ≤ nth (fun v => bI (L (sS n D d + v) = 0)) i (sW n D d).toNat ∧ nth (fun v => bI (L (sS n D d + v) = 0)) i (sW n D d).toNat < (sW n D d).toNat :=
  (nth_some (f := fun v => bI (L (sS n D d + v) = 0)) (fun v => bI_01' _) h0 (sW n D d).toNat (show i < szL L n D d from hi)).1
theorem lt_in {d x u : Int} (hO : sOk n D p) (hd : 0 ≤ d ∧ d + 1 ≤ D) (hx : 0 ≤ x ∧ x < n) (hu : 0 ≤ u ∧ u < sW n D d) : (0 ≤ x * sW n D d + u ∧ x * sW n D d + u < sW n D (d + 1)) ∧ (0 ≤ u * n + x ∧ u * n + x < sW n D (d + 1)) ∧ sW n D 1 = n := by
  have hws : sW n D (d + 1) = sW n D d * n := sW_succ (by omega) (by omega)
  have h1 := dv_in (W := sW n D d) (n := n) (t := u) (y := x) hu.1 hu.2 hx.1 hx.2
  have h2 := dv_in (W := n) (n := sW n D d) (t := x) (y := u) hx.1 hx.2 hu.1 hu.2
  rw [Int.mul_comm n] at h2
  rw [hws]
  exact ⟨h1, h2, by rw [sW_in (by omega) (by omega)]; exact Int.pow_one n⟩
theorem rk_conv {LW : Int → (Int → Int) → Prop} {fm l L IK KR : Int → Int} {d x e r : Int} (hO : sOk n D p) (hd : 0 ≤ d ∧ d + 1 ≤ D) (hx : 0 ≤ x ∧ x < n) (hL : ∀ x, 0 ≤ x → x < sS n D (d + 1) → l x = L x)
    (hc : ∃ l', cD p (sW n D (d + 1)) (nV n D p LW (d + 1).toNat) (fun w k => fm (sQ n D (d + 1) + w * sW n D (d + 1) + k)) l') (h01 : R01 IK)
    (h : ∃ N, (0 ≤ N ∧ N ≤ sW n D (d + 1)) ∧ (N = sW n D (d + 1) ∨ szL l n D d ≤ r) ∧ rkI p IK KR (fun j w => fm (sQ n D (d + 1) + (if e = 0 then x * sW n D d + nth (fun v => bI (l (sS n D d + v) = 0)) j (sW n D d).toNat else nth (fun v => bI (l (sS n D d + v) = 0)) j (sW n D d).toNat * sW n D 1 + x) * sW n D (d + 1) + w)) (szL l n D d) N r) :
    rkF n D p LW d x e (fun i => nth (fun v => bI (L (sS n D d + v) = 0)) i (sW n D d).toNat) (szL L n D d) r := by
  obtain ⟨N, h1, h2, h3⟩ := h
  obtain ⟨l', hc⟩ := hc
  rw [← szL_c hO hd.1 hL, ← nth_cL hO hd.1 hL]
  refine ⟨_, N, IK, KR, fun i a b => ?_, h3, h01, h1.2, h2⟩
  have hu := nth_in a b
  have hW := sW_b (k := d) hO
  have q := lt_in hO hd hx (u := nth (fun v => bI (l (sS n D d + v) = 0)) i (sW n D d).toNat) ⟨hu.1, by omega⟩
  dsimp only
  by_cases g : e = 0
  · rw [if_pos g, if_pos g]
    exact cD_F hc hO.2.2.2.1 q.1.1 q.1.2
  · rw [if_neg g, if_neg g, q.2.2]
    exact cD_F hc hO.2.2.2.1 q.2.1.1 q.2.1.2
theorem ce_conv {LW : Int → (Int → Int) → Prop} {fm l L IK KR : Int → Int} {d r : Int} (hO : sOk n D p) (hd : 0 ≤ d ∧ d + 1 ≤ D) (hL : ∀ x, 0 ≤ x → x < sS n D (d + 1) → l x = L x)
    (hc : ∃ l', cD p (sW n D (d + 1)) (nV n D p LW (d + 1).toNat) (fun w k => fm (sQ n D (d + 1) + w * sW n D (d + 1) + k)) l') (h01 : R01 IK)
    (h : ∃ R, rkC p IK KR (ceA fm n D d (fun j => nth (fun v => bI (l (sS n D d + v) = 0)) j (sW n D d).toNat)) (szL l n D d) (n * sW n D (d + 1)) R ∧ r = szL l n D d - R) :
    ceF n D p LW d (fun i => nth (fun v => bI (L (sS n D d + v) = 0)) i (sW n D d).toNat) (szL L n D d) r := by
  obtain ⟨R, h1, h2⟩ := h
  obtain ⟨l', hc⟩ := hc
  rw [← szL_c hO hd.1 hL, ← nth_cL hO hd.1 hL]
  refine ⟨_, R, IK, KR, fun i x a b a0 a1 => ?_, h1, h01, h2⟩
  have hu := nth_in a b
  have hW := sW_b (k := d) hO
  have q := lt_in hO hd ⟨a0, a1⟩ (u := nth (fun v => bI (l (sS n D d + v) = 0)) i (sW n D d).toNat) ⟨hu.1, by omega⟩
  refine ⟨_, _, cD_F hc hO.2.2.2.1 q.1.1 q.1.2, cD_F hc hO.2.2.2.1 q.2.1.1 q.2.1.2, fun w w0 w1 => ?_⟩
  have e := (ceA_at (fm := fm) (n := n) (D := D) (d := d) (U := fun j => nth (fun v => bI (l (sS n D d + v) = 0)) j (sW n D d).toNat) (j := i) (x := x) (w := w) ⟨w0, w1⟩ rfl rfl)
  dsimp only at e ⊢
  rw [Int.mul_comm (sW n D (d + 1)) x, ← e, q.2.2]
/-- the same rows on both sides -/
theorem ra_same {LW : Int → (Int → Int) → Prop} {d x e m : Int} {U : Int → Int} {A B : Int → Int → Int} (hO : sOk n D p) (hd : 0 ≤ d ∧ d + 1 ≤ D) (h1 : raM n D p LW d x e U A m) (h2 : raM n D p LW d x e U B m) : ∀ i j, 0 ≤ i → i < m → 0 ≤ j → j < sW n D (d + 1) → A i j = B i j := fun i j a b a0 a1 => by
  have hV := nV_sub (n := n) (D := D) (LW := LW) (show 0 < p by have := hO.2.2.2.1; omega) (d + 1).toNat (by omega)
  rw [show (((d + 1).toNat : Nat) : Int) = d + 1 by omega] at hV
  exact nf_uniq hV (sW_nn hO.1.1) (vS_ext hV hV.1 (fun j _ _ => mE_of (Int.sub_self _).symm)) (h1 i a b) (h2 i a b) j a0 a1
theorem ce_same {LW : Int → (Int → Int) → Prop} {d m : Int} {U : Int → Int} {A B : Int → Int → Int} (hO : sOk n D p) (hd : 0 ≤ d ∧ d + 1 ≤ D) (h1 : ceR n D p LW d U A m) (h2 : ceR n D p LW d U B m) : ∀ i c, 0 ≤ i → i < m → 0 ≤ c → c < n * sW n D (d + 1) → A i c = B i c := fun i c a b a0 a1 => by
  have hV := nV_sub (n := n) (D := D) (LW := LW) (show 0 < p by have := hO.2.2.2.1; omega) (d + 1).toNat (by omega)
  rw [show (((d + 1).toNat : Nat) : Int) = d + 1 by omega] at hV
  have hW : 0 ≤ sW n D (d + 1) := sW_nn hO.1.1
  rw [Int.mul_comm] at a1
  have q := dv hO.1.1 a0 a1 hW
  obtain ⟨P, Q, g1, g2, g3⟩ := h1 i (c / sW n D (d + 1)) a b q.2.2.1 q.2.2.2.1
  obtain ⟨P', Q', k1, k2, k3⟩ := h2 i (c / sW n D (d + 1)) a b q.2.2.1 q.2.2.2.1
  have u1 := nf_uniq hV hW (vS_ext hV hV.1 (fun j _ _ => mE_of (Int.sub_self _).symm)) g1 k1 _ q.2.2.2.2.1 q.2.2.2.2.2.1
  have u2 := nf_uniq hV hW (vS_ext hV hV.1 (fun j _ _ => mE_of (Int.sub_self _).symm)) g2 k2 _ q.2.2.2.2.1 q.2.2.2.2.2.1
  have e1 := g3 _ q.2.2.2.2.1 q.2.2.2.2.2.1
  have e2 := k3 _ q.2.2.2.2.1 q.2.2.2.2.2.1
  rw [Int.mul_comm (sW n D (d + 1)), q.2.2.2.2.2.2] at e1 e2
  rw [e1, e2, u1, u2]
theorem rk_fin {LW : Int → (Int → Int) → Prop} {d x e m r r' : Int} {U : Int → Int} (hO : sOk n D p) (hd : 0 ≤ d ∧ d + 1 ≤ D) (hm : 0 ≤ m) (h1 : rkF n D p LW d x e U m r) (h2 : ∃ A, raM n D p LW d x e U A m ∧ rkM p A m (sW n D (d + 1)) r') : r = r' := by
  obtain ⟨A, N, IK, KR, a1, a2, a3, a4, a5⟩ := h1
  obtain ⟨B, b1, b2⟩ := h2
  have e := ra_same hO hd a1 b1
  exact (rk_same hO.2.2.2 hm a3 (rkM_c b2 (fun i j g0 g1 g2 g3 => mE_of (e i j g0 g1 g2 g3))) a2 a4 a5).symm
theorem ce_fin {LW : Int → (Int → Int) → Prop} {d m r r' : Int} {U : Int → Int} (hO : sOk n D p) (hd : 0 ≤ d ∧ d + 1 ≤ D) (hm : 0 ≤ m) (h1 : ceF n D p LW d U m r) (h2 : ∃ A R, ceR n D p LW d U A m ∧ rkM p A m (n * sW n D (d + 1)) R ∧ r' = m - R) : r = r' := by
  obtain ⟨A, R, IK, KR, a1, ⟨N, a2, a3, a4⟩, a5, a6⟩ := h1
  obtain ⟨B, R', b1, b2, b3⟩ := h2
  have e := ce_same hO hd a1 b1
  have := rk_same hO.2.2.2 hm a5 (rkM_c b2 (fun i j g0 g1 g2 g3 => mE_trans (mE_symm (mE_emod p _)) (mE_of (e i j g0 g1 g2 g3)))) a4 a2.2 a3
  omega
end WRC
