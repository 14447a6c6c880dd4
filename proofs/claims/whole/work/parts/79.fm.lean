theorem fm_c {n D p d w k w' k' : Int} {V : (Int → Int) → Prop} {f l : Int → Int} (hO : sOk n D p) (h : cD p (sW n D d) V (fun w k => f (sQ n D d + w * sW n D d + k)) l) (hw : 0 ≤ w ∧ w < sW n D d) (hk : 0 ≤ k ∧ k < sW n D d) (ew : w' = w) (ek : k' = k) : ∃ X, isNF p (sW n D d) V (eW w) X ∧ (if (0 ≤ w' ∧ w' < sW n D d) ∧ 0 ≤ k' ∧ k' < sW n D d then f (sQ n D d + w' * sW n D d + k') else 0) = X k := by
  subst ew; subst ek
  exact ⟨_, cD_F h hO.2.2.2.1 hw.1 hw.2, if_pos ⟨hw, hk⟩⟩
