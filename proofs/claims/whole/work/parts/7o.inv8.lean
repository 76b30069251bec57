section INV8
theorem S0_IV : IV S0 := ⟨S0_PT, S0_HO, ⟨0, by omega, S0_o (by omega), fun i hi => absurd hi (by omega)⟩, ⟨0, by omega, S0_o (by omega), fun i hi => absurd hi (by omega)⟩, ⟨0, by omega, S0_o (by omega), fun i hi => absurd hi (by omega)⟩⟩
end INV8
