/-! classes of this claim -/
theorem hk_wl_in : ∀ w ∈ hk_wl, w ∈ lw_tbl := fun w h => (List.mem_filter.mp h).1
set_option maxRecDepth 100000 in
theorem hk_wl_good : hk_wl.all goodWord = true := by decide +kernel
theorem hk_sub {ws : List Jvm.Cond} (ps : List Nat) (h : ws = ps.filterMap hk_lk) : ∀ w ∈ ws, w ∈ hk_wl := by
  intro w hw
  rw [h] at hw
  obtain ⟨i, -, hi⟩ := List.mem_filterMap.mp hw
  exact hk_lk_in hi
def hk_C0 : String := "HullKeepers$Crew"
def hk_F0 : u_T := fun k => match k with
  | 0 => ("HullKeepers$Crew", "supply", "[I", true)
  | 1 => ("HullKeepers$Crew", "need", "[I", true)
  | 2 => ("HullKeepers$Crew", "set", "I", false)
  | _ => ("HullKeepers$Crew", "worth", "I", false)
def hk_t0 : Nat → FieldType := fun k => match k with
  | 0 => .array .int
  | 1 => .array .int
  | 2 => .int
  | _ => .int
set_option maxRecDepth 100000 in
theorem hk_uw0 : ∀ w ∈ u_ws hk_C0 hk_F0 4, w ∈ hk_wl := hk_sub [1055, 1057, 1059, 1061] (by decide +kernel)
def hk_C1 : String := "HullKeepers$House"
def hk_F1 : u_T := fun k => match k with
  | 0 => ("HullKeepers$House", "ships", "LHullKeepers$Table;", true)
  | 1 => ("HullKeepers$House", "plates", "LHullKeepers$Table;", true)
  | 2 => ("HullKeepers$House", "readings", "LHullKeepers$Table;", true)
  | 3 => ("HullKeepers$House", "gauges", "LHullKeepers$Table;", true)
  | 4 => ("HullKeepers$House", "texts", "LHullKeepers$Table;", true)
  | 5 => ("HullKeepers$House", "hulls", "LHullKeepers$Table;", true)
  | 6 => ("HullKeepers$House", "tests", "LHullKeepers$Table;", true)
  | 7 => ("HullKeepers$House", "hands", "LHullKeepers$Table;", true)
  | 8 => ("HullKeepers$House", "works", "LHullKeepers$Table;", true)
  | 9 => ("HullKeepers$House", "wears", "[I", true)
  | 10 => ("HullKeepers$House", "seas", "[I", true)
  | 11 => ("HullKeepers$House", "waves", "[I", true)
  | 12 => ("HullKeepers$House", "now", "I", false)
  | 13 => ("HullKeepers$House", "bound", "I", false)
  | 14 => ("HullKeepers$House", "wire", "I", false)
  | 15 => ("HullKeepers$House", "docks", "I", false)
  | _ => ("HullKeepers$House", "income", "I", false)
def hk_t1 : Nat → FieldType := fun k => match k with
  | 0 => .object "HullKeepers$Table"
  | 1 => .object "HullKeepers$Table"
  | 2 => .object "HullKeepers$Table"
  | 3 => .object "HullKeepers$Table"
  | 4 => .object "HullKeepers$Table"
  | 5 => .object "HullKeepers$Table"
  | 6 => .object "HullKeepers$Table"
  | 7 => .object "HullKeepers$Table"
  | 8 => .object "HullKeepers$Table"
  | 9 => .array .int
  | 10 => .array .int
  | 11 => .array .int
  | 12 => .int
  | 13 => .int
  | 14 => .int
  | 15 => .int
  | _ => .int
set_option maxRecDepth 100000 in
theorem hk_uw1 : ∀ w ∈ u_ws hk_C1 hk_F1 17, w ∈ hk_wl := hk_sub [628, 630, 632, 634, 636, 638, 640, 642, 644, 646, 648, 650, 652, 654, 656, 658, 660] (by decide +kernel)
def hk_C2 : String := "HullKeepers$LeakFinder"
def hk_F2 : u_T := fun k => match k with
  | 0 => ("HullKeepers$LeakFinder", "found", "I", false)
  | _ => ("HullKeepers$LeakFinder", "rivals", "I", false)
def hk_t2 : Nat → FieldType := fun k => match k with
  | 0 => .int
  | _ => .int
set_option maxRecDepth 100000 in
theorem hk_uw2 : ∀ w ∈ u_ws hk_C2 hk_F2 2, w ∈ hk_wl := hk_sub [1038, 1040] (by decide +kernel)
def hk_C3 : String := "HullKeepers$Planner"
def hk_F3 : u_T := fun k => match k with
  | 0 => ("HullKeepers$Planner", "needs", "[I", true)
  | 1 => ("HullKeepers$Planner", "strides", "[I", true)
  | 2 => ("HullKeepers$Planner", "steps", "[I", true)
  | 3 => ("HullKeepers$Planner", "coins", "[I", true)
  | 4 => ("HullKeepers$Planner", "chosen", "[I", true)
  | 5 => ("HullKeepers$Planner", "house", "LHullKeepers$House;", true)
  | 6 => ("HullKeepers$Planner", "bests", "[I", false)
  | 7 => ("HullKeepers$Planner", "states", "I", false)
  | 8 => ("HullKeepers$Planner", "years", "I", false)
  | 9 => ("HullKeepers$Planner", "letGo", "I", false)
  | 10 => ("HullKeepers$Planner", "dockings", "I", false)
  | _ => ("HullKeepers$Planner", "isMade", "Z", false)
def hk_t3 : Nat → FieldType := fun k => match k with
  | 0 => .array .int
  | 1 => .array .int
  | 2 => .array .int
  | 3 => .array .int
  | 4 => .array .int
  | 5 => .object "HullKeepers$House"
  | 6 => .array .int
  | 7 => .int
  | 8 => .int
  | 9 => .int
  | 10 => .int
  | _ => .boolean
set_option maxRecDepth 100000 in
theorem hk_uw3 : ∀ w ∈ u_ws hk_C3 hk_F3 12, w ∈ hk_wl := hk_sub [731, 733, 735, 737, 739, 741, 743, 745, 747, 749, 751, 1025] (by decide +kernel)
def hk_C4 : String := "HullKeepers$Reader"
def hk_F4 : u_T := fun k => match k with
  | 0 => ("HullKeepers$Reader", "house", "LHullKeepers$House;", true)
  | 1 => ("HullKeepers$Reader", "text", "I", false)
  | 2 => ("HullKeepers$Reader", "plate", "I", false)
  | 3 => ("HullKeepers$Reader", "length", "I", false)
  | 4 => ("HullKeepers$Reader", "place", "I", false)
  | _ => ("HullKeepers$Reader", "flaw", "I", false)
def hk_t4 : Nat → FieldType := fun k => match k with
  | 0 => .object "HullKeepers$House"
  | 1 => .int
  | 2 => .int
  | 3 => .int
  | 4 => .int
  | _ => .int
set_option maxRecDepth 100000 in
theorem hk_uw4 : ∀ w ∈ u_ws hk_C4 hk_F4 6, w ∈ hk_wl := hk_sub [676, 678, 680, 682, 684, 686] (by decide +kernel)
def hk_C5 : String := "HullKeepers$Storms"
def hk_F5 : u_T := fun k => match k with
  | 0 => ("HullKeepers$Storms", "leaks", "[I", true)
  | 1 => ("HullKeepers$Storms", "water", "[I", true)
  | 2 => ("HullKeepers$Storms", "sank", "[I", true)
  | 3 => ("HullKeepers$Storms", "month", "I", false)
  | _ => ("HullKeepers$Storms", "sinking", "I", false)
def hk_t5 : Nat → FieldType := fun k => match k with
  | 0 => .array .int
  | 1 => .array .int
  | 2 => .array .int
  | 3 => .int
  | _ => .int
set_option maxRecDepth 100000 in
theorem hk_uw5 : ∀ w ∈ u_ws hk_C5 hk_F5 5, w ∈ hk_wl := hk_sub [702, 704, 706, 708, 710] (by decide +kernel)
def hk_C6 : String := "HullKeepers$Table"
def hk_F6 : u_T := fun k => match k with
  | 0 => ("HullKeepers$Table", "most", "I", true)
  | 1 => ("HullKeepers$Table", "columns", "I", true)
  | 2 => ("HullKeepers$Table", "cells", "[I", true)
  | _ => ("HullKeepers$Table", "rows", "I", false)
def hk_t6 : Nat → FieldType := fun k => match k with
  | 0 => .int
  | 1 => .int
  | 2 => .array .int
  | _ => .int
set_option maxRecDepth 100000 in
theorem hk_uw6 : ∀ w ∈ u_ws hk_C6 hk_F6 4, w ∈ hk_wl := hk_sub [559, 561, 563, 565] (by decide +kernel)
def hk_C7 : String := "HullKeepers"
def hk_F7 : u_T := fun k => match k with
  | 0 => ("HullKeepers", "house", "LHullKeepers$House;", true)
  | 1 => ("HullKeepers", "images", "[LHullKeepers$House;", true)
  | 2 => ("HullKeepers", "reader", "LHullKeepers$Reader;", true)
  | 3 => ("HullKeepers", "storms", "LHullKeepers$Storms;", true)
  | 4 => ("HullKeepers", "planner", "LHullKeepers$Planner;", true)
  | 5 => ("HullKeepers", "leakFinder", "LHullKeepers$LeakFinder;", true)
  | _ => ("HullKeepers", "crew", "LHullKeepers$Crew;", true)
def hk_t7 : Nat → FieldType := fun k => match k with
  | 0 => .object "HullKeepers$House"
  | 1 => .array (.object "HullKeepers$House")
  | 2 => .object "HullKeepers$Reader"
  | 3 => .object "HullKeepers$Storms"
  | 4 => .object "HullKeepers$Planner"
  | 5 => .object "HullKeepers$LeakFinder"
  | _ => .object "HullKeepers$Crew"
set_option maxRecDepth 100000 in
theorem hk_uw7 : ∀ w ∈ u_ws hk_C7 hk_F7 7, w ∈ hk_wl := hk_sub [1071, 1073, 1075, 1077, 1079, 1081, 1083] (by decide +kernel)
def hk_C8 : String := "HullKeepersModel"
def hk_F8 : u_T := fun k => match k with
  | 0 => ("HullKeepersModel", "st", "[I", true)
  | 1 => ("HullKeepersModel", "kept", "[I", true)
  | 2 => ("HullKeepersModel", "images", "[I", true)
  | 3 => ("HullKeepersModel", "isKept", "[Z", true)
  | 4 => ("HullKeepersModel", "steps", "I", false)
  | 5 => ("HullKeepersModel", "step", "[I", true)
  | 6 => ("HullKeepersModel", "with", "[I", true)
  | 7 => ("HullKeepersModel", "waiting", "I", false)
  | 8 => ("HullKeepersModel", "waits", "[I", true)
  | 9 => ("HullKeepersModel", "value", "[J", true)
  | 10 => ("HullKeepersModel", "best", "[I", true)
  | _ => ("HullKeepersModel", "docked", "[I", true)
def hk_t8 : Nat → FieldType := fun k => match k with
  | 0 => .array .int
  | 1 => .array .int
  | 2 => .array .int
  | 3 => .array .boolean
  | 4 => .int
  | 5 => .array .int
  | 6 => .array .int
  | 7 => .int
  | 8 => .array .int
  | 9 => .array .long
  | 10 => .array .int
  | _ => .array .int
set_option maxRecDepth 100000 in
theorem hk_uw8 : ∀ w ∈ u_ws hk_C8 hk_F8 12, w ∈ hk_wl := hk_sub [2189, 2191, 2193, 2195, 2197, 2199, 2201, 2203, 2205, 2207, 2209, 2211] (by decide +kernel)
def hk_cls : List vw_C := [(hk_C0, hk_F0, 4), (hk_C1, hk_F1, 17), (hk_C2, hk_F2, 2), (hk_C3, hk_F3, 12), (hk_C4, hk_F4, 6), (hk_C5, hk_F5, 5), (hk_C6, hk_F6, 4), (hk_C7, hk_F7, 7), (hk_C8, hk_F8, 12)]
def hk_kdl : List (List Nat) := [[1, 1, 0, 0], [1, 1, 1, 1, 1, 1, 1, 1, 1, 1, 1, 1, 0, 0, 0, 0, 0], [0, 0], [1, 1, 1, 1, 1, 1, 1, 0, 0, 0, 0, 2], [1, 0, 0, 0, 0, 0], [1, 1, 1, 0, 0], [0, 0, 1, 0], [1, 1, 1, 1, 1, 1, 1], [1, 1, 1, 1, 0, 1, 1, 0, 1, 1, 1, 1]]
def hk_kd (a k : Nat) : Nat := ((hk_kdl[a]?).getD [])[k]?.getD 0
theorem hk_cok1 {ci : Nat} {C : String} {T : u_T} {N : Nat} {ty : Nat → FieldType} (h1 : ∀ w ∈ u_ws C T N, w ∈ hk_wl) (h2 : ∀ k, k < N → parseFieldDescriptor (T k).2.2.1 = some (ty k)) (h3 : ∀ k, k < N → (hk_kd ci k = 0 ∧ ty k = .int) ∨ (hk_kd ci k = 2 ∧ ty k = .boolean) ∨ (hk_kd ci k = 1 ∧ match ty k with | .object _ => True | .array _ => True | _ => False)) (h4 : ∀ a, a < N → ∀ b, b < N → a ≠ b → (T a).2.1 ≠ (T b).2.1) :
    (∀ w ∈ u_ws C T N, w ∈ hk_wl) ∧ (∃ ty : Nat → FieldType, (∀ k, k < N → parseFieldDescriptor (T k).2.2.1 = some (ty k)) ∧ ∀ k, k < N → (hk_kd ci k = 0 → ty k = .int) ∧ (hk_kd ci k = 1 → (∃ o, ty k = .object o) ∨ ∃ o, ty k = .array o) ∧ (hk_kd ci k = 2 → ty k = .boolean) ∧ hk_kd ci k ≤ 2) ∧ (∀ a, a < N → ∀ b, b < N → a ≠ b → (T a).2.1 ≠ (T b).2.1) := by
  refine ⟨h1, ⟨ty, h2, fun k hk => ?_⟩, h4⟩
  rcases h3 k hk with ⟨a, b⟩ | ⟨a, b⟩ | ⟨a, b⟩
  · exact ⟨fun _ => b, fun h => by omega, fun h => by omega, by omega⟩
  · exact ⟨fun h => by omega, fun h => by omega, fun _ => b, by omega⟩
  · refine ⟨fun h => by omega, fun _ => ?_, fun h => by omega, by omega⟩
    cases hty : ty k <;> rw [hty] at b <;> first | exact Or.inl ⟨_, rfl⟩ | exact Or.inr ⟨_, rfl⟩ | exact absurd b (by simp)
set_option maxRecDepth 100000 in
theorem hk_clsok : hk_Cok hk_cls hk_kd hk_wl := by
  intro ci q hq
  match ci, hq with
  | 0, hq => cases hq; exact hk_cok1 (ty := hk_t0) hk_uw0 (by decide +kernel) (fun k hk => by
      have hk : k < 4 := hk
      rcases (show k = 0 ∨ k = 1 ∨ k = 2 ∨ k = 3 by omega) with rfl | rfl | rfl | rfl <;> first | exact Or.inl ⟨rfl, rfl⟩ | exact Or.inr (Or.inl ⟨rfl, rfl⟩) | exact Or.inr (Or.inr ⟨rfl, trivial⟩)) (by decide +kernel)
  | 1, hq => cases hq; exact hk_cok1 (ty := hk_t1) hk_uw1 (by decide +kernel) (fun k hk => by
      have hk : k < 17 := hk
      rcases (show k = 0 ∨ k = 1 ∨ k = 2 ∨ k = 3 ∨ k = 4 ∨ k = 5 ∨ k = 6 ∨ k = 7 ∨ k = 8 ∨ k = 9 ∨ k = 10 ∨ k = 11 ∨ k = 12 ∨ k = 13 ∨ k = 14 ∨ k = 15 ∨ k = 16 by omega) with rfl | rfl | rfl | rfl | rfl | rfl | rfl | rfl | rfl | rfl | rfl | rfl | rfl | rfl | rfl | rfl | rfl <;> first | exact Or.inl ⟨rfl, rfl⟩ | exact Or.inr (Or.inl ⟨rfl, rfl⟩) | exact Or.inr (Or.inr ⟨rfl, trivial⟩)) (by decide +kernel)
  | 2, hq => cases hq; exact hk_cok1 (ty := hk_t2) hk_uw2 (by decide +kernel) (fun k hk => by
      have hk : k < 2 := hk
      rcases (show k = 0 ∨ k = 1 by omega) with rfl | rfl <;> first | exact Or.inl ⟨rfl, rfl⟩ | exact Or.inr (Or.inl ⟨rfl, rfl⟩) | exact Or.inr (Or.inr ⟨rfl, trivial⟩)) (by decide +kernel)
  | 3, hq => cases hq; exact hk_cok1 (ty := hk_t3) hk_uw3 (by decide +kernel) (fun k hk => by
      have hk : k < 12 := hk
      rcases (show k = 0 ∨ k = 1 ∨ k = 2 ∨ k = 3 ∨ k = 4 ∨ k = 5 ∨ k = 6 ∨ k = 7 ∨ k = 8 ∨ k = 9 ∨ k = 10 ∨ k = 11 by omega) with rfl | rfl | rfl | rfl | rfl | rfl | rfl | rfl | rfl | rfl | rfl | rfl <;> first | exact Or.inl ⟨rfl, rfl⟩ | exact Or.inr (Or.inl ⟨rfl, rfl⟩) | exact Or.inr (Or.inr ⟨rfl, trivial⟩)) (by decide +kernel)
  | 4, hq => cases hq; exact hk_cok1 (ty := hk_t4) hk_uw4 (by decide +kernel) (fun k hk => by
      have hk : k < 6 := hk
      rcases (show k = 0 ∨ k = 1 ∨ k = 2 ∨ k = 3 ∨ k = 4 ∨ k = 5 by omega) with rfl | rfl | rfl | rfl | rfl | rfl <;> first | exact Or.inl ⟨rfl, rfl⟩ | exact Or.inr (Or.inl ⟨rfl, rfl⟩) | exact Or.inr (Or.inr ⟨rfl, trivial⟩)) (by decide +kernel)
  | 5, hq => cases hq; exact hk_cok1 (ty := hk_t5) hk_uw5 (by decide +kernel) (fun k hk => by
      have hk : k < 5 := hk
      rcases (show k = 0 ∨ k = 1 ∨ k = 2 ∨ k = 3 ∨ k = 4 by omega) with rfl | rfl | rfl | rfl | rfl <;> first | exact Or.inl ⟨rfl, rfl⟩ | exact Or.inr (Or.inl ⟨rfl, rfl⟩) | exact Or.inr (Or.inr ⟨rfl, trivial⟩)) (by decide +kernel)
  | 6, hq => cases hq; exact hk_cok1 (ty := hk_t6) hk_uw6 (by decide +kernel) (fun k hk => by
      have hk : k < 4 := hk
      rcases (show k = 0 ∨ k = 1 ∨ k = 2 ∨ k = 3 by omega) with rfl | rfl | rfl | rfl <;> first | exact Or.inl ⟨rfl, rfl⟩ | exact Or.inr (Or.inl ⟨rfl, rfl⟩) | exact Or.inr (Or.inr ⟨rfl, trivial⟩)) (by decide +kernel)
  | 7, hq => cases hq; exact hk_cok1 (ty := hk_t7) hk_uw7 (by decide +kernel) (fun k hk => by
      have hk : k < 7 := hk
      rcases (show k = 0 ∨ k = 1 ∨ k = 2 ∨ k = 3 ∨ k = 4 ∨ k = 5 ∨ k = 6 by omega) with rfl | rfl | rfl | rfl | rfl | rfl | rfl <;> first | exact Or.inl ⟨rfl, rfl⟩ | exact Or.inr (Or.inl ⟨rfl, rfl⟩) | exact Or.inr (Or.inr ⟨rfl, trivial⟩)) (by decide +kernel)
  | 8, hq => cases hq; exact hk_cok1 (ty := hk_t8) hk_uw8 (by decide +kernel) (fun k hk => by
      have hk : k < 12 := hk
      rcases (show k = 0 ∨ k = 1 ∨ k = 2 ∨ k = 3 ∨ k = 4 ∨ k = 5 ∨ k = 6 ∨ k = 7 ∨ k = 8 ∨ k = 9 ∨ k = 10 ∨ k = 11 by omega) with rfl | rfl | rfl | rfl | rfl | rfl | rfl | rfl | rfl | rfl | rfl | rfl <;> first | exact Or.inl ⟨rfl, rfl⟩ | exact Or.inr (Or.inl ⟨rfl, rfl⟩) | exact Or.inr (Or.inr ⟨rfl, trivial⟩)) (by decide +kernel)
  | k + 9, hq => simp [hk_cls] at hq
def hk_shl : List hk_Sh := [(1, 7), (1, 1), (1, 6), (2, 54), (1, 6), (2, 576), (1, 6), (2, 750), (1, 6), (2, 12), (1, 6), (2, 244), (1, 6), (2, 12), (1, 6), (2, 40), (1, 6), (2, 16), (1, 6), (2, 24), (2, 3), (2, 600), (2, 90), (4, 2), (1, 4), (1, 5), (2, 360), (2, 6), (2, 6), (1, 3), (2, 4), (2, 4), (2, 16), (2, 16), (2, 10), (2, 0), (1, 2), (1, 0), (2, 32), (2, 5), (1, 8), (2, 2448), (2, 2448), (2, 4896), (3, 2), (2, 70), (2, 70), (2, 70), (5, 70), (2, 161051), (2, 4), (1, 1), (1, 6), (2, 54), (1, 6), (2, 576), (1, 6), (2, 750), (1, 6), (2, 12), (1, 6), (2, 244), (1, 6), (2, 12), (1, 6), (2, 40), (1, 6), (2, 16), (1, 6), (2, 24), (2, 3), (2, 600), (2, 90), (1, 1), (1, 6), (2, 54), (1, 6), (2, 576), (1, 6), (2, 750), (1, 6), (2, 12), (1, 6), (2, 244), (1, 6), (2, 12), (1, 6), (2, 40), (1, 6), (2, 16), (1, 6), (2, 24), (2, 3), (2, 600), (2, 90), (2, 100000), (6, 0)]
def hk_SH (p : Nat) : hk_Sh := (hk_shl[p]?).getD (0, 0)
