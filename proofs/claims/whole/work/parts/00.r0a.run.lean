/-! A LAW GIVES, noon 24 -/
theorem gives {nl l : Nat} {A B : yI} (hL : yLaws nl A B) (hl : l < nl) (hf : ∀ j, j < 8 → B 91 j = A 36 j) : y2 (f30_gives_15_36 (yn l) A) (f155_gives (yn l) B) (fun x y => x.1 = y.1) := by
  sorry
