/-! THE CLASS: a shape in its cells (two of them: 0 the algebra's, 1 the text's) -/
def cSg (σ : en_m) (rl rd rp rm rs rn : Nat) (n D p : Int) : Prop := sOk n D p ∧ σ rl 0 = n ∧ σ rd 0 = D ∧ σ rp 0 = p ∧ (∀ k : Int, 0 ≤ k → k ≤ 7 → σ rm k = sW n D k) ∧ (∀ k : Int, 0 ≤ k → k ≤ 8 → σ rs k = sS n D k) ∧ ∀ x : Int, 0 ≤ x → x < sS n D (D + 1) → σ rn x = sL n D x
abbrev cS0 (σ : en_m) (n D p : Int) : Prop := cSg σ r_Shape0_letters r_Shape0_degree r_Shape0_prime r_Shape0_many r_Shape0_start r_Shape0_lengths n D p
abbrev cS1 (σ : en_m) (n D p : Int) : Prop := cSg σ r_Shape1_letters r_Shape1_degree r_Shape1_prime r_Shape1_many r_Shape1_start r_Shape1_lengths n D p
theorem sS_8 {n D p : Int} (h : sOk n D p) : sS n D 8 = sS n D (D + 1) := sS_top h (by have := h.2.1; omega)
