

section GROW
variable {cf cf' : Nat → Nat}
theorem spO_le (h1 : cf 1 ≤ cf' 1) (h2 : cf 2 ≤ cf' 2) : ∀ o, o < 7 → ∀ j, spLe ((spO cf o).getD j (9, 0, 0)) ((spO cf' o).getD j (9, 0, 0)) := by
  intro o ho
  rcases (show o = 0 ∨ o = 1 ∨ o = 2 ∨ o = 3 ∨ o = 4 ∨ o = 5 ∨ o = 6 by omega) with rfl | rfl | rfl | rfl | rfl | rfl | rfl
  · exact all2_getD (by simp [all2, spLe, spO, spO0])
  · exact all2_getD (by simp [all2, spLe, spO, spO1])
  · exact all2_getD (by simp [all2, spLe, spO, spO2])
  · exact all2_getD (by simp [all2, spLe, spO, spO3])
  · exact all2_getD (by simp [all2, spLe, spO, spO4]; omega)
  · exact all2_getD (by simp [all2, spLe, spO, spO5])
  · exact all2_getD (by simp [all2, spLe, spO, spO6])
theorem spR_le (h2 : cf 2 ≤ cf' 2) : ∀ j, spLe ((spR cf).getD j (9, 0, 0)) ((spR cf').getD j (9, 0, 0)) := all2_getD (by simp [all2, spLe, spR]; omega)
theorem spO_ref {Q : Nat → Prop} (hQ : ∀ k, fixB k = true → Q k) : ∀ o, o < 7 → ∀ j, refP Q ((spO cf o).getD j (9, 0, 0)) := by
  intro o ho
  rcases (show o = 0 ∨ o = 1 ∨ o = 2 ∨ o = 3 ∨ o = 4 ∨ o = 5 ∨ o = 6 by omega) with rfl | rfl | rfl | rfl | rfl | rfl | rfl
  · exact allR_getD ⟨hQ _ rfl, hQ _ rfl, hQ _ rfl, hQ _ rfl, hQ _ rfl, hQ _ rfl, trivial⟩
  · exact allR_getD ⟨trivial, trivial, trivial, hQ _ rfl, hQ _ rfl, hQ _ rfl, hQ _ rfl, hQ _ rfl, hQ _ rfl, hQ _ rfl, hQ _ rfl, trivial⟩
  · exact allR_getD ⟨hQ _ rfl, trivial, trivial, trivial, hQ _ rfl, trivial, hQ _ rfl, hQ _ rfl, hQ _ rfl, trivial, trivial⟩
  · exact allR_getD ⟨hQ _ rfl, hQ _ rfl, hQ _ rfl, hQ _ rfl, hQ _ rfl, hQ _ rfl, trivial, trivial, trivial, trivial⟩
  · exact allR_getD ⟨hQ _ rfl, hQ _ rfl, trivial, hQ _ rfl, hQ _ rfl, hQ _ rfl, hQ _ rfl, hQ _ rfl, hQ _ rfl, hQ _ rfl, trivial⟩
  · exact allR_getD ⟨hQ _ rfl, hQ _ rfl, hQ _ rfl, hQ _ rfl, hQ _ rfl, hQ _ rfl, trivial, trivial, trivial, trivial, trivial⟩
  · exact allR_getD ⟨hQ _ rfl, hQ _ rfl, hQ _ rfl, hQ _ rfl, hQ _ rfl, hQ _ rfl, hQ _ rfl, hQ _ rfl, hQ _ rfl, hQ _ rfl, hQ _ rfl, hQ _ rfl, hQ _ rfl, hQ _ rfl, hQ _ rfl, trivial, trivial, hQ _ rfl, trivial⟩
theorem spR_ref {Q : Nat → Prop} : ∀ j, refP Q ((spR cf).getD j (9, 0, 0)) := allR_getD (by simp [allR, refP, spR])
end GROW

