/-- links to a nest mate's own methods -/
def hk_nl : List (String × Nat × MethodName × String) := [("HullKeepers$House", 96, ⟨"HullKeepers", "within", "(III)Z"⟩, "HullKeepers"), ("HullKeepers$Crew", 65, ⟨"HullKeepers", "within", "(III)Z"⟩, "HullKeepers"), ("HullKeepers$Table", 51, ⟨"HullKeepers", "mixed", "(JJ)J"⟩, "HullKeepers")]
