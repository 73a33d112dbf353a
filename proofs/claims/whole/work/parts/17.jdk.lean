abbrev rJ7_copyOf_59c91 : Room := { frames := 2, cells := 1, slots := 160, locals := 60 }
abbrev rJ0_indexOf_0f7a4 : Room := { frames := 6, cells := 0, slots := 0, locals := 200 }
theorem c_J7_copyOf_59c91 (l : Launch) (h0 : Nat) (v1 : Int32) (σ : zSt) : zMet l yJ7_copyOf_59c91 cJ7_copyOf_59c91 3 (some (.array .int)) rJ7_copyOf_59c91 false (eR 1100) [aR 1210 (some h0), aI v1] σ (fJ7_copyOf_59c91 h0 v1 σ) := sorry
theorem c_J0_indexOf_0f7a4 (l : Launch) (q : Bool) (k : Nat) (v1 : Int32) (σ : zSt) : zMet l yJ0_indexOf_0f7a4 cJ0_indexOf_0f7a4 2 (some .int) rJ0_indexOf_0f7a4 q eI [aR 15 (some k), aI v1] σ (zro (fJ0_indexOf_0f7a4 k v1 σ) σ) := sorry
