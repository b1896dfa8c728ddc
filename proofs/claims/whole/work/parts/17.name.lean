/-- the heap gets a name -/
theorem z_nameH {y : ZM} {Φ : Option Value → ZH → Prop} {rc rs pc : Nat} {L : List (Option Value)} {S : List Value} {h : ZH} (k : ∀ h1 : ZH, h1 = h → Zt y Φ rc rs pc L S h1) : Zt y Φ rc rs pc L S h := k h rfl
