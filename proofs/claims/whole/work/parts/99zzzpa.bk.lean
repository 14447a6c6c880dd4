/-! a call that changes much -/
theorem slm_app : ∀ (la l lb : en_g), slm l (la ++ lb) = slm (slm l la) lb
  | [], _, _ => rfl
  | q :: la, l, lb => slm_app la (sl l q.1 q.2) lb
theorem wp_bk2 {c : en_c} {pc : Nat} {ls : en_l} {st : List en_v} {σ : en_m} {Q : Option en_v → en_m → Prop} {l lc la lb l1 l2 : en_g} (hs : lc = la ++ lb) (ha : en_apart lc = true) (h1 : slm l la = l1) (h2 : slm l1 lb = l2) (K : en_wp c pc ls st (srl σ l2) Q) : en_wp c pc ls st (srl (srl σ l) lc) Q :=
  wp_bk ha (by rw [hs, slm_app, h1, h2]) K
theorem wp_bk4 {c : en_c} {pc : Nat} {ls : en_l} {st : List en_v} {σ : en_m} {Q : Option en_v → en_m → Prop} {l lc la lb ld le l1 l2 l3 l4 : en_g} (hs : lc = la ++ (lb ++ (ld ++ le))) (ha : en_apart lc = true) (h1 : slm l la = l1) (h2 : slm l1 lb = l2) (h3 : slm l2 ld = l3) (h4 : slm l3 le = l4) (K : en_wp c pc ls st (srl σ l4) Q) : en_wp c pc ls st (srl (srl σ l) lc) Q :=
  wp_bk ha (by rw [hs, slm_app, slm_app, slm_app, h1, h2, h3, h4]) K
theorem lk_len {n D p x : Int} {K V LG LR : Int → Int} {m : Int} (hm : 0 ≤ m) (h : lkQ n D p K V m LG LR m) (e : x = cLw K m) : ∀ k, 0 ≤ k → k < x → 0 ≤ LG k ∧ LG k ≤ D := fun k a b => lkQ_len hm h k a (by rw [← e]; exact b)
