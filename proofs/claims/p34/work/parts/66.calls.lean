section CLS
theorem jcat_0 {α ρ : Type} {v : Int32} {S : α} {k : Int32 → α → Option ρ} {kc : Nat → α → Option ρ} : jcat (some ((0 : Nat), v, S)) k kc = k v S := rfl
theorem jcat_t {α ρ : Type} {t : Nat} {v : Int32} {S : α} {k : Int32 → α → Option ρ} {kc : Nat → α → Option ρ} : jcat (some (t + 1, v, S)) k kc = kc (t + 1) S := rfl
theorem jbind_t {α β : Type} {t : Nat} {v : Int32} {S : α} {k : Int32 → α → Option (jR β)} {kt : Nat → α → Option (jR β)} : jbind (some (t + 1, v, S)) k kt = kt (t + 1) S := rfl
theorem n32_add {i : Nat} (j : Nat) : Int32.ofNat i + Int32.ofNat j = Int32.ofNat (i + j) := (Int32.ofNat_add i j).symm
end CLS
