/-! the checks of the tables, decided -/
def hk_eb (e : hk_E) (own : String) (ini : Bool) (rk mx : Nat) (cc : ByteArray) : Bool := decide (decode cc e.1 = .ok (e.2.1, e.2.2.1)) && hk_iok hk_cls hk_kd hk_mt "HullKeepers$House" own ini rk mx e.1 e.2.1 e.2.2.1 e.2.2.2.2.1.1 e.2.2.2.2.1.2.1 e.2.2.2.2.1.2.2.1 e.2.2.2.2.1.2.2.2 e.2.2.2.2.2.1 e.2.2.2.2.2.2.1 e.2.2.2.2.2.2.2
theorem hk_eb_ok {cd : List hk_E} {own : String} {ini : Bool} {rk mx : Nat} {cc : ByteArray} (h : cd.all (fun e => hk_eb e own ini rk mx cc) = true) : ∀ e ∈ cd, decode cc e.1 = .ok (e.2.1, e.2.2.1) ∧ hk_iok hk_cls hk_kd hk_mt "HullKeepers$House" own ini rk mx e.1 e.2.1 e.2.2.1 e.2.2.2.2.1.1 e.2.2.2.2.1.2.1 e.2.2.2.2.1.2.2.1 e.2.2.2.2.1.2.2.2 e.2.2.2.2.2.1 e.2.2.2.2.2.2.1 e.2.2.2.2.2.2.2 = true := by
  intro e he
  have h1 := List.all_eq_true.mp h e he
  unfold hk_eb at h1
  rw [Bool.and_eq_true] at h1
  exact ⟨of_decide_eq_true h1.1, h1.2⟩
def hk_Mb (q : hk_Q) (wc wi w1 w2 : Nat) : Bool :=
  plainName q.1.cls && decide (q.1.cls ≠ "java/lang/invoke/MethodHandle") && decide (q.1.cls ≠ "java/lang/invoke/VarHandle") && decide (hk_lk wi = some (.initialized q.1.cls)) &&
  (match q.2.2.2.2.1.2.1 with
    | 0 => decide (hk_lk w1 = some (.instanceMethod q.1)) && decide (hk_lk w2 = some (.selects q.1.cls q.1 q.1)) && decide (1 ≤ q.2.2.2.2.1.1)
    | 1 => decide (q.1.name = "<init>") && decide (hk_lk w1 = some (.instanceMethod q.1)) && decide (q.2.2.2.1 = none) && decide (1 ≤ q.2.2.2.2.1.1)
    | 2 => decide (hk_lk w1 = some (.static q.1))
    | _ => false) && decide (q.2.2.1 ≤ 40) && decide ((parseMethodDescriptor q.1.desc).map (fun d => d.parameters.length) = some (match q.2.2.2.2.1.2.1 with
    | 2 => q.2.2.2.2.1.1
    | _ => q.2.2.2.2.1.1 - 1)) && decide (q.2.2.2.1 = none ∨ q.2.2.2.1 = some .int ∨ q.2.2.2.1 = some .boolean ∨ q.2.2.2.1 = some .long) &&
  (q.2.2.2.2.2.all (fun e => hk_eb e q.1.cls (decide (q.1.name = "<init>")) (hk_rk q.2.2.2.1) q.2.2.1 q.2.1)) && hk_seq q.2.2.2.2.2 && (match q.2.2.2.2.2 with | [] => true | e :: _ => decide (e.1 = 0))
theorem hk_Mb_ok {q : hk_Q} (wc wi w1 w2 : Nat) (a4 : hk_lk wc = some (.code q.1 q.2.1 q.2.2.1 q.2.2.2.1)) (h : hk_Mb q wc wi w1 w2 = true) : hk_Mok hk_cls hk_kd hk_wl hk_mt "HullKeepers$House" q := by
  unfold hk_Mb at h
  simp only [Bool.and_eq_true, decide_eq_true_eq] at h
  obtain ⟨⟨⟨⟨⟨⟨⟨⟨⟨⟨a1, a2⟩, a3⟩, a5⟩, a6⟩, a7⟩, a8⟩, a9⟩, a10⟩, a11⟩, a12⟩ := h
  refine ⟨a1, ⟨a2, a3⟩, hk_lk_in a4, hk_lk_in a5, ?_, ?_, ?_, a7, a8, a9, hk_eb_ok a10, a11, a12⟩
  · intro hk
    rw [hk] at a6
    simp only [Bool.and_eq_true, decide_eq_true_eq] at a6
    exact ⟨hk_lk_in a6.1.1, hk_lk_in a6.1.2, a6.2⟩
  · intro hk
    rw [hk] at a6
    simp only [Bool.and_eq_true, decide_eq_true_eq] at a6
    exact ⟨a6.1.1.1, hk_lk_in a6.1.1.2, a6.1.2, a6.2⟩
  · intro hk
    rw [hk] at a6
    exact hk_lk_in (of_decide_eq_true a6)
set_option maxRecDepth 100000 in
theorem hk_o10 : hk_Mok hk_cls hk_kd hk_wl hk_mt "HullKeepers$House" hk_m10 := hk_Mb_ok 1047 521 1046 0 rfl (by decide +kernel)
set_option maxRecDepth 100000 in
theorem hk_o11 : hk_Mok hk_cls hk_kd hk_wl hk_mt "HullKeepers$House" hk_m11 := hk_Mb_ok 1089 513 1087 1088 rfl (by decide +kernel)
set_option maxRecDepth 100000 in
theorem hk_o12 : hk_Mok hk_cls hk_kd hk_wl hk_mt "HullKeepers$House" hk_m12 := hk_Mb_ok 1092 513 1091 0 rfl (by decide +kernel)
set_option maxRecDepth 100000 in
theorem hk_o13 : hk_Mok hk_cls hk_kd hk_wl hk_mt "HullKeepers$House" hk_m13 := hk_Mb_ok 1100 513 1098 1099 rfl (by decide +kernel)
set_option maxRecDepth 100000 in
theorem hk_o14 : hk_Mok hk_cls hk_kd hk_wl hk_mt "HullKeepers$House" hk_m14 := hk_Mb_ok 1104 515 1102 1103 rfl (by decide +kernel)
set_option maxRecDepth 100000 in
theorem hk_o15 : hk_Mok hk_cls hk_kd hk_wl hk_mt "HullKeepers$House" hk_m15 := hk_Mb_ok 1108 513 1106 1107 rfl (by decide +kernel)
set_option maxRecDepth 100000 in
theorem hk_o16 : hk_Mok hk_cls hk_kd hk_wl hk_mt "HullKeepers$House" hk_m16 := hk_Mb_ok 1112 515 1110 1111 rfl (by decide +kernel)
set_option maxRecDepth 100000 in
theorem hk_o17 : hk_Mok hk_cls hk_kd hk_wl hk_mt "HullKeepers$House" hk_m17 := hk_Mb_ok 1116 514 1114 1115 rfl (by decide +kernel)
set_option maxRecDepth 100000 in
theorem hk_o18 : hk_Mok hk_cls hk_kd hk_wl hk_mt "HullKeepers$House" hk_m18 := hk_Mb_ok 1121 514 1119 1120 rfl (by decide +kernel)
set_option maxRecDepth 100000 in
theorem hk_o19 : hk_Mok hk_cls hk_kd hk_wl hk_mt "HullKeepers$House" hk_m19 := hk_Mb_ok 1126 513 1124 1125 rfl (by decide +kernel)
set_option maxRecDepth 100000 in
theorem hk_o20 : hk_Mok hk_cls hk_kd hk_wl hk_mt "HullKeepers$House" hk_m20 := hk_Mb_ok 1130 513 1128 1129 rfl (by decide +kernel)
set_option maxRecDepth 100000 in
theorem hk_o21 : hk_Mok hk_cls hk_kd hk_wl hk_mt "HullKeepers$House" hk_m21 := hk_Mb_ok 1134 513 1132 1133 rfl (by decide +kernel)
set_option maxRecDepth 100000 in
theorem hk_o22 : hk_Mok hk_cls hk_kd hk_wl hk_mt "HullKeepers$House" hk_m22 := hk_Mb_ok 1139 513 1137 1138 rfl (by decide +kernel)
set_option maxRecDepth 100000 in
theorem hk_o23 : hk_Mok hk_cls hk_kd hk_wl hk_mt "HullKeepers$House" hk_m23 := hk_Mb_ok 1143 515 1141 1142 rfl (by decide +kernel)
set_option maxRecDepth 100000 in
theorem hk_o24 : hk_Mok hk_cls hk_kd hk_wl hk_mt "HullKeepers$House" hk_m24 := hk_Mb_ok 1148 513 1146 1147 rfl (by decide +kernel)
set_option maxRecDepth 100000 in
theorem hk_o25 : hk_Mok hk_cls hk_kd hk_wl hk_mt "HullKeepers$House" hk_m25 := hk_Mb_ok 1151 513 1150 0 rfl (by decide +kernel)
set_option maxRecDepth 100000 in
theorem hk_o26 : hk_Mok hk_cls hk_kd hk_wl hk_mt "HullKeepers$House" hk_m26 := hk_Mb_ok 1156 513 1154 1155 rfl (by decide +kernel)
set_option maxRecDepth 100000 in
theorem hk_o27 : hk_Mok hk_cls hk_kd hk_wl hk_mt "HullKeepers$House" hk_m27 := hk_Mb_ok 1160 513 1159 0 rfl (by decide +kernel)
set_option maxRecDepth 100000 in
theorem hk_o28 : hk_Mok hk_cls hk_kd hk_wl hk_mt "HullKeepers$House" hk_m28 := hk_Mb_ok 1164 514 1162 1163 rfl (by decide +kernel)
set_option maxRecDepth 100000 in
theorem hk_o29 : hk_Mok hk_cls hk_kd hk_wl hk_mt "HullKeepers$House" hk_m29 := hk_Mb_ok 1168 514 1167 1 rfl (by decide +kernel)
set_option maxRecDepth 100000 in
theorem hk_o30 : hk_Mok hk_cls hk_kd hk_wl hk_mt "HullKeepers$House" hk_m30 := hk_Mb_ok 1172 514 1170 1171 rfl (by decide +kernel)
set_option maxRecDepth 100000 in
theorem hk_o31 : hk_Mok hk_cls hk_kd hk_wl hk_mt "HullKeepers$House" hk_m31 := hk_Mb_ok 1176 514 1174 1175 rfl (by decide +kernel)
set_option maxRecDepth 100000 in
theorem hk_o32 : hk_Mok hk_cls hk_kd hk_wl hk_mt "HullKeepers$House" hk_m32 := hk_Mb_ok 1180 514 1178 1179 rfl (by decide +kernel)
set_option maxRecDepth 100000 in
theorem hk_o33 : hk_Mok hk_cls hk_kd hk_wl hk_mt "HullKeepers$House" hk_m33 := hk_Mb_ok 1184 514 1182 1183 rfl (by decide +kernel)
set_option maxRecDepth 100000 in
theorem hk_o34 : hk_Mok hk_cls hk_kd hk_wl hk_mt "HullKeepers$House" hk_m34 := hk_Mb_ok 1190 514 1188 1189 rfl (by decide +kernel)
set_option maxRecDepth 100000 in
theorem hk_o35 : hk_Mok hk_cls hk_kd hk_wl hk_mt "HullKeepers$House" hk_m35 := hk_Mb_ok 1197 514 1196 2 rfl (by decide +kernel)
set_option maxRecDepth 100000 in
theorem hk_o36 : hk_Mok hk_cls hk_kd hk_wl hk_mt "HullKeepers$House" hk_m36 := hk_Mb_ok 1201 514 1199 1200 rfl (by decide +kernel)
set_option maxRecDepth 100000 in
theorem hk_o37 : hk_Mok hk_cls hk_kd hk_wl hk_mt "HullKeepers$House" hk_m37 := hk_Mb_ok 1205 514 1203 1204 rfl (by decide +kernel)
set_option maxRecDepth 100000 in
theorem hk_o38 : hk_Mok hk_cls hk_kd hk_wl hk_mt "HullKeepers$House" hk_m38 := hk_Mb_ok 1209 513 1207 1208 rfl (by decide +kernel)
set_option maxRecDepth 100000 in
theorem hk_o39 : hk_Mok hk_cls hk_kd hk_wl hk_mt "HullKeepers$House" hk_m39 := hk_Mb_ok 1213 514 1211 1212 rfl (by decide +kernel)
