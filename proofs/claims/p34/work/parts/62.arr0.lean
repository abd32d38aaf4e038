section AR0
theorem of_tag {σ : Type} {o : Option (jR σ)} (h : (o.map fun r => r.1) = some 0) : ∃ v S, o = some (0, v, S) := by
  cases o with
  | none => cases h
  | some r =>
    obtain ⟨t, v, S⟩ := r
    have : t = 0 := Option.some.inj h
    subst this
    exact ⟨v, S, rfl⟩
set_option maxRecDepth 100000 in
theorem arr6_tag : ((f_X4_arrange zS 27 6).map fun r => r.1) = some 0 := by decide +kernel
set_option maxRecDepth 100000 in
theorem arr8_tag : ((f_X4_arrange zS 62 8).map fun r => r.1) = some 0 := by decide +kernel
end AR0
section AR1
set_option maxRecDepth 100000 in
theorem arr6_row : ((List.range 6).all fun j => ((f_X4_arrange zS 27 6).map fun r => r.2.2 29 j) == some (Int32.ofNat j)) = true := by decide +kernel
set_option maxRecDepth 100000 in
theorem arr8_row : ((List.range 8).all fun j => ((f_X4_arrange zS 62 8).map fun r => r.2.2 64 j) == some (Int32.ofNat j)) = true := by decide +kernel
end AR1
