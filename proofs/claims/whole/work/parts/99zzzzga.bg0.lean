theorem seg_1 {f g : Int → Int} {o v : Int} (h : v = g 0) : up f o v = seg f o 1 g := by
  have e := seg_up (f := f) (o := o) (k := 0) (g := g) (by decide) h
  rw [seg_0, Int.add_zero] at e
  exact e
