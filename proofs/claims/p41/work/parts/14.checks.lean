/-! the checks of the tables, decided -/
def hk_eb (e : hk_E) (own : String) (ini : Bool) (rk mx : Nat) : Bool := hk_iok hk_cls hk_kd hk_mt "HullKeepers$House" own ini rk mx e.1 e.2.1 e.2.2.1 e.2.2.2.2.1.1 e.2.2.2.2.1.2.1 e.2.2.2.2.1.2.2.1 e.2.2.2.2.1.2.2.2 e.2.2.2.2.2.1 e.2.2.2.2.2.2.1 e.2.2.2.2.2.2.2
theorem hk_eb_ok {cd : List hk_E} {own : String} {ini : Bool} {rk mx : Nat} {cc : ByteArray} (h0 : hk_wlk cc cc.data.toList 0 cd = true) (h : cd.all (fun e => hk_eb e own ini rk mx) = true) : ∀ e ∈ cd, decode cc e.1 = .ok (e.2.1, e.2.2.1) ∧ hk_iok hk_cls hk_kd hk_mt "HullKeepers$House" own ini rk mx e.1 e.2.1 e.2.2.1 e.2.2.2.2.1.1 e.2.2.2.2.1.2.1 e.2.2.2.2.1.2.2.1 e.2.2.2.2.1.2.2.2 e.2.2.2.2.2.1 e.2.2.2.2.2.2.1 e.2.2.2.2.2.2.2 = true := by
  intro e he
  exact ⟨hk_wlk_ok (pc := 0) h0 e he, List.all_eq_true.mp h e he⟩
def hk_Mb (q : hk_Q) (wc wi w1 w2 : Nat) : Bool :=
  plainName q.1.cls && decide (q.1.cls ≠ "java/lang/invoke/MethodHandle") && decide (q.1.cls ≠ "java/lang/invoke/VarHandle") && decide (hk_lk wi = some (.initialized q.1.cls)) &&
  (match q.2.2.2.2.1.2.1 with
    | 0 => decide (hk_lk w1 = some (.instanceMethod q.1)) && decide (hk_lk w2 = some (.selects q.1.cls q.1 q.1)) && decide (1 ≤ q.2.2.2.2.1.1)
    | 1 => decide (q.1.name = "<init>") && decide (hk_lk w1 = some (.instanceMethod q.1)) && decide (q.2.2.2.1 = none) && decide (1 ≤ q.2.2.2.2.1.1)
    | 2 => decide (hk_lk w1 = some (.static q.1))
    | _ => false) && decide (q.2.2.1 ≤ 40) && decide ((parseMethodDescriptor q.1.desc).map (fun d => d.parameters.length) = some (match q.2.2.2.2.1.2.1 with
    | 2 => q.2.2.2.2.1.1
    | _ => q.2.2.2.2.1.1 - 1)) && decide (q.2.2.2.1 = none ∨ q.2.2.2.1 = some .int ∨ q.2.2.2.1 = some .boolean ∨ q.2.2.2.1 = some .long) &&
  (hk_wlk q.2.1 q.2.1.data.toList 0 q.2.2.2.2.2 && q.2.2.2.2.2.all (fun e => hk_eb e q.1.cls (decide (q.1.name = "<init>")) (hk_rk q.2.2.2.1) q.2.2.1)) && hk_seq q.2.2.2.2.2 && (match q.2.2.2.2.2 with | [] => true | e :: _ => decide (e.1 = 0))
theorem hk_Mb_ok {q : hk_Q} (wc wi w1 w2 : Nat) (a4 : hk_lk wc = some (.code q.1 q.2.1 q.2.2.1 q.2.2.2.1)) (h : hk_Mb q wc wi w1 w2 = true) : hk_Mok hk_cls hk_kd hk_wl hk_mt "HullKeepers$House" q := by
  unfold hk_Mb at h
  simp only [Bool.and_eq_true, decide_eq_true_eq] at h
  obtain ⟨⟨⟨⟨⟨⟨⟨⟨⟨⟨a1, a2⟩, a3⟩, a5⟩, a6⟩, a7⟩, a8⟩, a9⟩, ⟨a10, a10b⟩⟩, a11⟩, a12⟩ := h
  refine ⟨a1, ⟨a2, a3⟩, hk_lk_in a4, hk_lk_in a5, ?_, ?_, ?_, a7, a8, a9, hk_eb_ok a10 a10b, a11, a12⟩
  · intro hk
    rw [hk] at a6
    simp only [Bool.and_eq_true, decide_eq_true_eq] at a6
    exact ⟨hk_lk_in a6.1.1, hk_lk_in a6.1.2, a6.2⟩
  · intro hk
    rw [hk] at a6
    simp only [Bool.and_eq_true, decide_eq_true_eq] at a6
    exact ⟨a6.1.1.1, hk_lk_in a6.1.1.2, a6.1.2, a6.2⟩
  · intro hk
    rw [hk] at a6
    exact hk_lk_in (of_decide_eq_true a6)
set_option maxRecDepth 100000 in
theorem hk_o0 : hk_Mok hk_cls hk_kd hk_wl hk_mt "HullKeepers$House" hk_m0 := hk_Mb_ok 530 513 529 0 rfl (by decide +kernel)
set_option maxRecDepth 100000 in
theorem hk_o1 : hk_Mok hk_cls hk_kd hk_wl hk_mt "HullKeepers$House" hk_m1 := hk_Mb_ok 538 514 537 0 rfl (by decide +kernel)
set_option maxRecDepth 100000 in
theorem hk_o2 : hk_Mok hk_cls hk_kd hk_wl hk_mt "HullKeepers$House" hk_m2 := hk_Mb_ok 544 515 543 0 rfl (by decide +kernel)
set_option maxRecDepth 100000 in
theorem hk_o3 : hk_Mok hk_cls hk_kd hk_wl hk_mt "HullKeepers$House" hk_m3 := hk_Mb_ok 572 515 570 571 rfl (by decide +kernel)
set_option maxRecDepth 100000 in
theorem hk_o4 : hk_Mok hk_cls hk_kd hk_wl hk_mt "HullKeepers$House" hk_m4 := hk_Mb_ok 576 515 574 575 rfl (by decide +kernel)
set_option maxRecDepth 100000 in
theorem hk_o5 : hk_Mok hk_cls hk_kd hk_wl hk_mt "HullKeepers$House" hk_m5 := hk_Mb_ok 580 515 578 579 rfl (by decide +kernel)
set_option maxRecDepth 100000 in
theorem hk_o6 : hk_Mok hk_cls hk_kd hk_wl hk_mt "HullKeepers$House" hk_m6 := hk_Mb_ok 668 517 667 0 rfl (by decide +kernel)
set_option maxRecDepth 100000 in
theorem hk_o7 : hk_Mok hk_cls hk_kd hk_wl hk_mt "HullKeepers$House" hk_m7 := hk_Mb_ok 693 518 692 0 rfl (by decide +kernel)
set_option maxRecDepth 100000 in
theorem hk_o8 : hk_Mok hk_cls hk_kd hk_wl hk_mt "HullKeepers$House" hk_m8 := hk_Mb_ok 717 519 716 0 rfl (by decide +kernel)
set_option maxRecDepth 100000 in
theorem hk_o9 : hk_Mok hk_cls hk_kd hk_wl hk_mt "HullKeepers$House" hk_m9 := hk_Mb_ok 1032 520 1031 0 rfl (by decide +kernel)
set_option maxRecDepth 100000 in
theorem hk_o10 : hk_Mok hk_cls hk_kd hk_wl hk_mt "HullKeepers$House" hk_m10 := hk_Mb_ok 1047 521 1046 0 rfl (by decide +kernel)
set_option maxRecDepth 100000 in
theorem hk_o11 : hk_Mok hk_cls hk_kd hk_wl hk_mt "HullKeepers$House" hk_m11 := hk_Mb_ok 1089 513 1087 1088 rfl (by decide +kernel)
set_option maxRecDepth 100000 in
theorem hk_o12 : hk_Mok hk_cls hk_kd hk_wl hk_mt "HullKeepers$House" hk_m12 := hk_Mb_ok 1092 513 1091 0 rfl (by decide +kernel)
set_option maxRecDepth 100000 in
theorem hk_o13 : hk_Mok hk_cls hk_kd hk_wl hk_mt "HullKeepers$House" hk_m13 := hk_Mb_ok 1100 513 1098 1099 rfl (by decide +kernel)
set_option maxRecDepth 100000 in
theorem hk_o14 : hk_Mok hk_cls hk_kd hk_wl hk_mt "HullKeepers$House" hk_m14 := hk_Mb_ok 1104 515 1102 1103 rfl (by decide +kernel)
set_option maxRecDepth 100000 in
theorem hk_o15 : hk_Mok hk_cls hk_kd hk_wl hk_mt "HullKeepers$House" hk_m15 := hk_Mb_ok 1108 513 1106 1107 rfl (by decide +kernel)
set_option maxRecDepth 100000 in
theorem hk_o16 : hk_Mok hk_cls hk_kd hk_wl hk_mt "HullKeepers$House" hk_m16 := hk_Mb_ok 1112 515 1110 1111 rfl (by decide +kernel)
set_option maxRecDepth 100000 in
theorem hk_o17 : hk_Mok hk_cls hk_kd hk_wl hk_mt "HullKeepers$House" hk_m17 := hk_Mb_ok 1116 514 1114 1115 rfl (by decide +kernel)
set_option maxRecDepth 100000 in
theorem hk_o18 : hk_Mok hk_cls hk_kd hk_wl hk_mt "HullKeepers$House" hk_m18 := hk_Mb_ok 1121 514 1119 1120 rfl (by decide +kernel)
set_option maxRecDepth 100000 in
theorem hk_o19 : hk_Mok hk_cls hk_kd hk_wl hk_mt "HullKeepers$House" hk_m19 := hk_Mb_ok 1126 513 1124 1125 rfl (by decide +kernel)
set_option maxRecDepth 100000 in
theorem hk_o20 : hk_Mok hk_cls hk_kd hk_wl hk_mt "HullKeepers$House" hk_m20 := hk_Mb_ok 1130 513 1128 1129 rfl (by decide +kernel)
set_option maxRecDepth 100000 in
theorem hk_o21 : hk_Mok hk_cls hk_kd hk_wl hk_mt "HullKeepers$House" hk_m21 := hk_Mb_ok 1134 513 1132 1133 rfl (by decide +kernel)
set_option maxRecDepth 100000 in
theorem hk_o22 : hk_Mok hk_cls hk_kd hk_wl hk_mt "HullKeepers$House" hk_m22 := hk_Mb_ok 1139 513 1137 1138 rfl (by decide +kernel)
set_option maxRecDepth 100000 in
theorem hk_o23 : hk_Mok hk_cls hk_kd hk_wl hk_mt "HullKeepers$House" hk_m23 := hk_Mb_ok 1143 515 1141 1142 rfl (by decide +kernel)
set_option maxRecDepth 100000 in
theorem hk_o24 : hk_Mok hk_cls hk_kd hk_wl hk_mt "HullKeepers$House" hk_m24 := hk_Mb_ok 1148 513 1146 1147 rfl (by decide +kernel)
set_option maxRecDepth 100000 in
theorem hk_o25 : hk_Mok hk_cls hk_kd hk_wl hk_mt "HullKeepers$House" hk_m25 := hk_Mb_ok 1151 513 1150 0 rfl (by decide +kernel)
set_option maxRecDepth 100000 in
theorem hk_o26 : hk_Mok hk_cls hk_kd hk_wl hk_mt "HullKeepers$House" hk_m26 := hk_Mb_ok 1156 513 1154 1155 rfl (by decide +kernel)
set_option maxRecDepth 100000 in
theorem hk_o27 : hk_Mok hk_cls hk_kd hk_wl hk_mt "HullKeepers$House" hk_m27 := hk_Mb_ok 1160 513 1159 0 rfl (by decide +kernel)
set_option maxRecDepth 100000 in
theorem hk_o28 : hk_Mok hk_cls hk_kd hk_wl hk_mt "HullKeepers$House" hk_m28 := hk_Mb_ok 1164 514 1162 1163 rfl (by decide +kernel)
set_option maxRecDepth 100000 in
theorem hk_o29 : hk_Mok hk_cls hk_kd hk_wl hk_mt "HullKeepers$House" hk_m29 := hk_Mb_ok 1168 514 1167 1 rfl (by decide +kernel)
set_option maxRecDepth 100000 in
theorem hk_o30 : hk_Mok hk_cls hk_kd hk_wl hk_mt "HullKeepers$House" hk_m30 := hk_Mb_ok 1172 514 1170 1171 rfl (by decide +kernel)
set_option maxRecDepth 100000 in
theorem hk_o31 : hk_Mok hk_cls hk_kd hk_wl hk_mt "HullKeepers$House" hk_m31 := hk_Mb_ok 1176 514 1174 1175 rfl (by decide +kernel)
set_option maxRecDepth 100000 in
theorem hk_o32 : hk_Mok hk_cls hk_kd hk_wl hk_mt "HullKeepers$House" hk_m32 := hk_Mb_ok 1180 514 1178 1179 rfl (by decide +kernel)
set_option maxRecDepth 100000 in
theorem hk_o33 : hk_Mok hk_cls hk_kd hk_wl hk_mt "HullKeepers$House" hk_m33 := hk_Mb_ok 1184 514 1182 1183 rfl (by decide +kernel)
set_option maxRecDepth 100000 in
theorem hk_o34 : hk_Mok hk_cls hk_kd hk_wl hk_mt "HullKeepers$House" hk_m34 := hk_Mb_ok 1190 514 1188 1189 rfl (by decide +kernel)
set_option maxRecDepth 100000 in
theorem hk_o35 : hk_Mok hk_cls hk_kd hk_wl hk_mt "HullKeepers$House" hk_m35 := hk_Mb_ok 1197 514 1196 2 rfl (by decide +kernel)
set_option maxRecDepth 100000 in
theorem hk_o36 : hk_Mok hk_cls hk_kd hk_wl hk_mt "HullKeepers$House" hk_m36 := hk_Mb_ok 1201 514 1199 1200 rfl (by decide +kernel)
set_option maxRecDepth 100000 in
theorem hk_o37 : hk_Mok hk_cls hk_kd hk_wl hk_mt "HullKeepers$House" hk_m37 := hk_Mb_ok 1205 514 1203 1204 rfl (by decide +kernel)
set_option maxRecDepth 100000 in
theorem hk_o38 : hk_Mok hk_cls hk_kd hk_wl hk_mt "HullKeepers$House" hk_m38 := hk_Mb_ok 1209 513 1207 1208 rfl (by decide +kernel)
set_option maxRecDepth 100000 in
theorem hk_o39 : hk_Mok hk_cls hk_kd hk_wl hk_mt "HullKeepers$House" hk_m39 := hk_Mb_ok 1213 514 1211 1212 rfl (by decide +kernel)
set_option maxRecDepth 100000 in
theorem hk_o40 : hk_Mok hk_cls hk_kd hk_wl hk_mt "HullKeepers$House" hk_m40 := hk_Mb_ok 1218 514 1216 1217 rfl (by decide +kernel)
set_option maxRecDepth 100000 in
theorem hk_o41 : hk_Mok hk_cls hk_kd hk_wl hk_mt "HullKeepers$House" hk_m41 := hk_Mb_ok 1222 513 1220 1221 rfl (by decide +kernel)
set_option maxRecDepth 100000 in
theorem hk_o42 : hk_Mok hk_cls hk_kd hk_wl hk_mt "HullKeepers$House" hk_m42 := hk_Mb_ok 1226 513 1224 1225 rfl (by decide +kernel)
set_option maxRecDepth 100000 in
theorem hk_o43 : hk_Mok hk_cls hk_kd hk_wl hk_mt "HullKeepers$House" hk_m43 := hk_Mb_ok 1231 517 1229 1230 rfl (by decide +kernel)
set_option maxRecDepth 100000 in
theorem hk_o44 : hk_Mok hk_cls hk_kd hk_wl hk_mt "HullKeepers$House" hk_m44 := hk_Mb_ok 1235 517 1233 1234 rfl (by decide +kernel)
set_option maxRecDepth 100000 in
theorem hk_o45 : hk_Mok hk_cls hk_kd hk_wl hk_mt "HullKeepers$House" hk_m45 := hk_Mb_ok 1240 517 1239 3 rfl (by decide +kernel)
set_option maxRecDepth 100000 in
theorem hk_o46 : hk_Mok hk_cls hk_kd hk_wl hk_mt "HullKeepers$House" hk_m46 := hk_Mb_ok 1244 517 1243 4 rfl (by decide +kernel)
set_option maxRecDepth 100000 in
theorem hk_o47 : hk_Mok hk_cls hk_kd hk_wl hk_mt "HullKeepers$House" hk_m47 := hk_Mb_ok 1248 517 1247 5 rfl (by decide +kernel)
set_option maxRecDepth 100000 in
theorem hk_o48 : hk_Mok hk_cls hk_kd hk_wl hk_mt "HullKeepers$House" hk_m48 := hk_Mb_ok 1252 517 1251 6 rfl (by decide +kernel)
set_option maxRecDepth 100000 in
theorem hk_o49 : hk_Mok hk_cls hk_kd hk_wl hk_mt "HullKeepers$House" hk_m49 := hk_Mb_ok 1256 517 1255 7 rfl (by decide +kernel)
set_option maxRecDepth 100000 in
theorem hk_o50 : hk_Mok hk_cls hk_kd hk_wl hk_mt "HullKeepers$House" hk_m50 := hk_Mb_ok 1260 517 1259 8 rfl (by decide +kernel)
set_option maxRecDepth 100000 in
theorem hk_o51 : hk_Mok hk_cls hk_kd hk_wl hk_mt "HullKeepers$House" hk_m51 := hk_Mb_ok 1536 517 1263 9 rfl (by decide +kernel)
set_option maxRecDepth 100000 in
theorem hk_o52 : hk_Mok hk_cls hk_kd hk_wl hk_mt "HullKeepers$House" hk_m52 := hk_Mb_ok 1540 517 1538 1539 rfl (by decide +kernel)
set_option maxRecDepth 100000 in
theorem hk_o53 : hk_Mok hk_cls hk_kd hk_wl hk_mt "HullKeepers$House" hk_m53 := hk_Mb_ok 1544 517 1543 10 rfl (by decide +kernel)
set_option maxRecDepth 100000 in
theorem hk_o54 : hk_Mok hk_cls hk_kd hk_wl hk_mt "HullKeepers$House" hk_m54 := hk_Mb_ok 1548 517 1547 11 rfl (by decide +kernel)
set_option maxRecDepth 100000 in
theorem hk_o55 : hk_Mok hk_cls hk_kd hk_wl hk_mt "HullKeepers$House" hk_m55 := hk_Mb_ok 1552 517 1551 12 rfl (by decide +kernel)
set_option maxRecDepth 100000 in
theorem hk_o56 : hk_Mok hk_cls hk_kd hk_wl hk_mt "HullKeepers$House" hk_m56 := hk_Mb_ok 1557 517 1556 13 rfl (by decide +kernel)
set_option maxRecDepth 100000 in
theorem hk_o57 : hk_Mok hk_cls hk_kd hk_wl hk_mt "HullKeepers$House" hk_m57 := hk_Mb_ok 1561 517 1560 14 rfl (by decide +kernel)
set_option maxRecDepth 100000 in
theorem hk_o58 : hk_Mok hk_cls hk_kd hk_wl hk_mt "HullKeepers$House" hk_m58 := hk_Mb_ok 1565 517 1564 15 rfl (by decide +kernel)
set_option maxRecDepth 100000 in
theorem hk_o59 : hk_Mok hk_cls hk_kd hk_wl hk_mt "HullKeepers$House" hk_m59 := hk_Mb_ok 1570 513 1568 1569 rfl (by decide +kernel)
set_option maxRecDepth 100000 in
theorem hk_o60 : hk_Mok hk_cls hk_kd hk_wl hk_mt "HullKeepers$House" hk_m60 := hk_Mb_ok 1574 513 1572 1573 rfl (by decide +kernel)
set_option maxRecDepth 100000 in
theorem hk_o61 : hk_Mok hk_cls hk_kd hk_wl hk_mt "HullKeepers$House" hk_m61 := hk_Mb_ok 1578 513 1576 1577 rfl (by decide +kernel)
set_option maxRecDepth 100000 in
theorem hk_o62 : hk_Mok hk_cls hk_kd hk_wl hk_mt "HullKeepers$House" hk_m62 := hk_Mb_ok 1582 513 1580 1581 rfl (by decide +kernel)
set_option maxRecDepth 100000 in
theorem hk_o63 : hk_Mok hk_cls hk_kd hk_wl hk_mt "HullKeepers$House" hk_m63 := hk_Mb_ok 1586 513 1584 1585 rfl (by decide +kernel)
set_option maxRecDepth 100000 in
theorem hk_o64 : hk_Mok hk_cls hk_kd hk_wl hk_mt "HullKeepers$House" hk_m64 := hk_Mb_ok 1590 514 1588 1589 rfl (by decide +kernel)
set_option maxRecDepth 100000 in
theorem hk_o65 : hk_Mok hk_cls hk_kd hk_wl hk_mt "HullKeepers$House" hk_m65 := hk_Mb_ok 1594 514 1593 16 rfl (by decide +kernel)
set_option maxRecDepth 100000 in
theorem hk_o66 : hk_Mok hk_cls hk_kd hk_wl hk_mt "HullKeepers$House" hk_m66 := hk_Mb_ok 1599 514 1598 17 rfl (by decide +kernel)
set_option maxRecDepth 100000 in
theorem hk_o67 : hk_Mok hk_cls hk_kd hk_wl hk_mt "HullKeepers$House" hk_m67 := hk_Mb_ok 1609 513 1607 1608 rfl (by decide +kernel)
set_option maxRecDepth 100000 in
theorem hk_o68 : hk_Mok hk_cls hk_kd hk_wl hk_mt "HullKeepers$House" hk_m68 := hk_Mb_ok 1613 514 1611 1612 rfl (by decide +kernel)
set_option maxRecDepth 100000 in
theorem hk_o69 : hk_Mok hk_cls hk_kd hk_wl hk_mt "HullKeepers$House" hk_m69 := hk_Mb_ok 1618 513 1616 1617 rfl (by decide +kernel)
set_option maxRecDepth 100000 in
theorem hk_o70 : hk_Mok hk_cls hk_kd hk_wl hk_mt "HullKeepers$House" hk_m70 := hk_Mb_ok 1622 514 1620 1621 rfl (by decide +kernel)
set_option maxRecDepth 100000 in
theorem hk_o71 : hk_Mok hk_cls hk_kd hk_wl hk_mt "HullKeepers$House" hk_m71 := hk_Mb_ok 1627 513 1625 1626 rfl (by decide +kernel)
set_option maxRecDepth 100000 in
theorem hk_o72 : hk_Mok hk_cls hk_kd hk_wl hk_mt "HullKeepers$House" hk_m72 := hk_Mb_ok 1631 513 1629 1630 rfl (by decide +kernel)
set_option maxRecDepth 100000 in
theorem hk_o73 : hk_Mok hk_cls hk_kd hk_wl hk_mt "HullKeepers$House" hk_m73 := hk_Mb_ok 1635 513 1633 1634 rfl (by decide +kernel)
set_option maxRecDepth 100000 in
theorem hk_o74 : hk_Mok hk_cls hk_kd hk_wl hk_mt "HullKeepers$House" hk_m74 := hk_Mb_ok 1639 517 1637 1638 rfl (by decide +kernel)
set_option maxRecDepth 100000 in
theorem hk_o75 : hk_Mok hk_cls hk_kd hk_wl hk_mt "HullKeepers$House" hk_m75 := hk_Mb_ok 1643 513 1641 1642 rfl (by decide +kernel)
set_option maxRecDepth 100000 in
theorem hk_o76 : hk_Mok hk_cls hk_kd hk_wl hk_mt "HullKeepers$House" hk_m76 := hk_Mb_ok 1651 513 1649 1650 rfl (by decide +kernel)
set_option maxRecDepth 100000 in
theorem hk_o77 : hk_Mok hk_cls hk_kd hk_wl hk_mt "HullKeepers$House" hk_m77 := hk_Mb_ok 1655 513 1653 1654 rfl (by decide +kernel)
set_option maxRecDepth 100000 in
theorem hk_o78 : hk_Mok hk_cls hk_kd hk_wl hk_mt "HullKeepers$House" hk_m78 := hk_Mb_ok 1659 513 1657 1658 rfl (by decide +kernel)
set_option maxRecDepth 100000 in
theorem hk_o79 : hk_Mok hk_cls hk_kd hk_wl hk_mt "HullKeepers$House" hk_m79 := hk_Mb_ok 1663 519 1661 1662 rfl (by decide +kernel)
set_option maxRecDepth 100000 in
theorem hk_o80 : hk_Mok hk_cls hk_kd hk_wl hk_mt "HullKeepers$House" hk_m80 := hk_Mb_ok 1667 513 1665 1666 rfl (by decide +kernel)
set_option maxRecDepth 100000 in
theorem hk_o81 : hk_Mok hk_cls hk_kd hk_wl hk_mt "HullKeepers$House" hk_m81 := hk_Mb_ok 1671 513 1669 1670 rfl (by decide +kernel)
set_option maxRecDepth 100000 in
theorem hk_o82 : hk_Mok hk_cls hk_kd hk_wl hk_mt "HullKeepers$House" hk_m82 := hk_Mb_ok 1675 519 1673 1674 rfl (by decide +kernel)
set_option maxRecDepth 100000 in
theorem hk_o83 : hk_Mok hk_cls hk_kd hk_wl hk_mt "HullKeepers$House" hk_m83 := hk_Mb_ok 1679 519 1678 18 rfl (by decide +kernel)
set_option maxRecDepth 100000 in
theorem hk_o84 : hk_Mok hk_cls hk_kd hk_wl hk_mt "HullKeepers$House" hk_m84 := hk_Mb_ok 1683 519 1682 19 rfl (by decide +kernel)
set_option maxRecDepth 100000 in
theorem hk_o85 : hk_Mok hk_cls hk_kd hk_wl hk_mt "HullKeepers$House" hk_m85 := hk_Mb_ok 1690 523 1689 0 rfl (by decide +kernel)
set_option maxRecDepth 100000 in
theorem hk_o86 : hk_Mok hk_cls hk_kd hk_wl hk_mt "HullKeepers$House" hk_m86 := hk_Mb_ok 1693 523 1692 0 rfl (by decide +kernel)
set_option maxRecDepth 100000 in
theorem hk_o87 : hk_Mok hk_cls hk_kd hk_wl hk_mt "HullKeepers$House" hk_m87 := hk_Mb_ok 1697 519 1696 20 rfl (by decide +kernel)
set_option maxRecDepth 100000 in
theorem hk_o88 : hk_Mok hk_cls hk_kd hk_wl hk_mt "HullKeepers$House" hk_m88 := hk_Mb_ok 1701 519 1700 21 rfl (by decide +kernel)
set_option maxRecDepth 100000 in
theorem hk_o89 : hk_Mok hk_cls hk_kd hk_wl hk_mt "HullKeepers$House" hk_m89 := hk_Mb_ok 1705 519 1704 22 rfl (by decide +kernel)
set_option maxRecDepth 100000 in
theorem hk_o90 : hk_Mok hk_cls hk_kd hk_wl hk_mt "HullKeepers$House" hk_m90 := hk_Mb_ok 1709 519 1708 23 rfl (by decide +kernel)
set_option maxRecDepth 100000 in
theorem hk_o91 : hk_Mok hk_cls hk_kd hk_wl hk_mt "HullKeepers$House" hk_m91 := hk_Mb_ok 1713 519 1712 24 rfl (by decide +kernel)
set_option maxRecDepth 100000 in
theorem hk_o92 : hk_Mok hk_cls hk_kd hk_wl hk_mt "HullKeepers$House" hk_m92 := hk_Mb_ok 1717 519 1716 25 rfl (by decide +kernel)
set_option maxRecDepth 100000 in
theorem hk_o93 : hk_Mok hk_cls hk_kd hk_wl hk_mt "HullKeepers$House" hk_m93 := hk_Mb_ok 1721 519 1720 26 rfl (by decide +kernel)
set_option maxRecDepth 100000 in
theorem hk_o94 : hk_Mok hk_cls hk_kd hk_wl hk_mt "HullKeepers$House" hk_m94 := hk_Mb_ok 1725 519 1724 27 rfl (by decide +kernel)
set_option maxRecDepth 100000 in
theorem hk_o95 : hk_Mok hk_cls hk_kd hk_wl hk_mt "HullKeepers$House" hk_m95 := hk_Mb_ok 1729 519 1728 28 rfl (by decide +kernel)
set_option maxRecDepth 100000 in
theorem hk_o96 : hk_Mok hk_cls hk_kd hk_wl hk_mt "HullKeepers$House" hk_m96 := hk_Mb_ok 1732 524 1731 0 rfl (by decide +kernel)
set_option maxRecDepth 100000 in
theorem hk_o97 : hk_Mok hk_cls hk_kd hk_wl hk_mt "HullKeepers$House" hk_m97 := hk_Mb_ok 1739 519 1738 29 rfl (by decide +kernel)
set_option maxRecDepth 100000 in
theorem hk_o98 : hk_Mok hk_cls hk_kd hk_wl hk_mt "HullKeepers$House" hk_m98 := hk_Mb_ok 1743 519 1741 1742 rfl (by decide +kernel)
set_option maxRecDepth 100000 in
theorem hk_o99 : hk_Mok hk_cls hk_kd hk_wl hk_mt "HullKeepers$House" hk_m99 := hk_Mb_ok 1747 513 1745 1746 rfl (by decide +kernel)
set_option maxRecDepth 100000 in
theorem hk_o100 : hk_Mok hk_cls hk_kd hk_wl hk_mt "HullKeepers$House" hk_m100 := hk_Mb_ok 1751 515 1749 1750 rfl (by decide +kernel)
set_option maxRecDepth 100000 in
theorem hk_o101 : hk_Mok hk_cls hk_kd hk_wl hk_mt "HullKeepers$House" hk_m101 := hk_Mb_ok 1755 513 1753 1754 rfl (by decide +kernel)
set_option maxRecDepth 100000 in
theorem hk_o102 : hk_Mok hk_cls hk_kd hk_wl hk_mt "HullKeepers$House" hk_m102 := hk_Mb_ok 1759 513 1757 1758 rfl (by decide +kernel)
set_option maxRecDepth 100000 in
theorem hk_o103 : hk_Mok hk_cls hk_kd hk_wl hk_mt "HullKeepers$House" hk_m103 := hk_Mb_ok 1763 513 1761 1762 rfl (by decide +kernel)
set_option maxRecDepth 100000 in
theorem hk_o104 : hk_Mok hk_cls hk_kd hk_wl hk_mt "HullKeepers$House" hk_m104 := hk_Mb_ok 1767 520 1765 1766 rfl (by decide +kernel)
set_option maxRecDepth 100000 in
theorem hk_o105 : hk_Mok hk_cls hk_kd hk_wl hk_mt "HullKeepers$House" hk_m105 := hk_Mb_ok 1770 520 1769 0 rfl (by decide +kernel)
set_option maxRecDepth 100000 in
theorem hk_o106 : hk_Mok hk_cls hk_kd hk_wl hk_mt "HullKeepers$House" hk_m106 := hk_Mb_ok 1775 520 1774 30 rfl (by decide +kernel)
set_option maxRecDepth 100000 in
theorem hk_o107 : hk_Mok hk_cls hk_kd hk_wl hk_mt "HullKeepers$House" hk_m107 := hk_Mb_ok 2051 520 2050 0 rfl (by decide +kernel)
set_option maxRecDepth 100000 in
theorem hk_o108 : hk_Mok hk_cls hk_kd hk_wl hk_mt "HullKeepers$House" hk_m108 := hk_Mb_ok 2055 513 2053 2054 rfl (by decide +kernel)
set_option maxRecDepth 100000 in
theorem hk_o109 : hk_Mok hk_cls hk_kd hk_wl hk_mt "HullKeepers$House" hk_m109 := hk_Mb_ok 2059 513 2057 2058 rfl (by decide +kernel)
set_option maxRecDepth 100000 in
theorem hk_o110 : hk_Mok hk_cls hk_kd hk_wl hk_mt "HullKeepers$House" hk_m110 := hk_Mb_ok 2063 513 2061 2062 rfl (by decide +kernel)
set_option maxRecDepth 100000 in
theorem hk_o111 : hk_Mok hk_cls hk_kd hk_wl hk_mt "HullKeepers$House" hk_m111 := hk_Mb_ok 2067 513 2065 2066 rfl (by decide +kernel)
set_option maxRecDepth 100000 in
theorem hk_o112 : hk_Mok hk_cls hk_kd hk_wl hk_mt "HullKeepers$House" hk_m112 := hk_Mb_ok 2071 513 2069 2070 rfl (by decide +kernel)
set_option maxRecDepth 100000 in
theorem hk_o113 : hk_Mok hk_cls hk_kd hk_wl hk_mt "HullKeepers$House" hk_m113 := hk_Mb_ok 2075 521 2073 2074 rfl (by decide +kernel)
set_option maxRecDepth 100000 in
theorem hk_o114 : hk_Mok hk_cls hk_kd hk_wl hk_mt "HullKeepers$House" hk_m114 := hk_Mb_ok 2079 521 2078 31 rfl (by decide +kernel)
set_option maxRecDepth 100000 in
theorem hk_o115 : hk_Mok hk_cls hk_kd hk_wl hk_mt "HullKeepers$House" hk_m115 := hk_Mb_ok 2083 521 2082 0 rfl (by decide +kernel)
set_option maxRecDepth 100000 in
theorem hk_o116 : hk_Mok hk_cls hk_kd hk_wl hk_mt "HullKeepers$House" hk_m116 := hk_Mb_ok 2087 521 2086 32 rfl (by decide +kernel)
set_option maxRecDepth 100000 in
theorem hk_o117 : hk_Mok hk_cls hk_kd hk_wl hk_mt "HullKeepers$House" hk_m117 := hk_Mb_ok 2091 521 2090 33 rfl (by decide +kernel)
set_option maxRecDepth 100000 in
theorem hk_o118 : hk_Mok hk_cls hk_kd hk_wl hk_mt "HullKeepers$House" hk_m118 := hk_Mb_ok 2094 523 2093 0 rfl (by decide +kernel)
set_option maxRecDepth 100000 in
theorem hk_o119 : hk_Mok hk_cls hk_kd hk_wl hk_mt "HullKeepers$House" hk_m119 := hk_Mb_ok 2099 513 2097 2098 rfl (by decide +kernel)
set_option maxRecDepth 100000 in
theorem hk_o120 : hk_Mok hk_cls hk_kd hk_wl hk_mt "HullKeepers$House" hk_m120 := hk_Mb_ok 2103 518 2101 2102 rfl (by decide +kernel)
set_option maxRecDepth 100000 in
theorem hk_o121 : hk_Mok hk_cls hk_kd hk_wl hk_mt "HullKeepers$House" hk_m121 := hk_Mb_ok 2109 518 2108 34 rfl (by decide +kernel)
set_option maxRecDepth 100000 in
theorem hk_o122 : hk_Mok hk_cls hk_kd hk_wl hk_mt "HullKeepers$House" hk_m122 := hk_Mb_ok 2114 518 2113 35 rfl (by decide +kernel)
set_option maxRecDepth 100000 in
theorem hk_o123 : hk_Mok hk_cls hk_kd hk_wl hk_mt "HullKeepers$House" hk_m123 := hk_Mb_ok 2120 513 2118 2119 rfl (by decide +kernel)
set_option maxRecDepth 100000 in
theorem hk_o124 : hk_Mok hk_cls hk_kd hk_wl hk_mt "HullKeepers$House" hk_m124 := hk_Mb_ok 2124 514 2122 2123 rfl (by decide +kernel)
set_option maxRecDepth 100000 in
theorem hk_o125 : hk_Mok hk_cls hk_kd hk_wl hk_mt "HullKeepers$House" hk_m125 := hk_Mb_ok 2128 515 2126 2127 rfl (by decide +kernel)
set_option maxRecDepth 100000 in
theorem hk_o126 : hk_Mok hk_cls hk_kd hk_wl hk_mt "HullKeepers$House" hk_m126 := hk_Mb_ok 2137 513 2135 2136 rfl (by decide +kernel)
set_option maxRecDepth 100000 in
theorem hk_o127 : hk_Mok hk_cls hk_kd hk_wl hk_mt "HullKeepers$House" hk_m127 := hk_Mb_ok 2141 513 2139 2140 rfl (by decide +kernel)
set_option maxRecDepth 100000 in
theorem hk_o128 : hk_Mok hk_cls hk_kd hk_wl hk_mt "HullKeepers$House" hk_m128 := hk_Mb_ok 2145 514 2143 2144 rfl (by decide +kernel)
set_option maxRecDepth 100000 in
theorem hk_o129 : hk_Mok hk_cls hk_kd hk_wl hk_mt "HullKeepers$House" hk_m129 := hk_Mb_ok 2149 514 2148 36 rfl (by decide +kernel)
set_option maxRecDepth 100000 in
theorem hk_o130 : hk_Mok hk_cls hk_kd hk_wl hk_mt "HullKeepers$House" hk_m130 := hk_Mb_ok 2153 513 2151 2152 rfl (by decide +kernel)
set_option maxRecDepth 100000 in
theorem hk_o131 : hk_Mok hk_cls hk_kd hk_wl hk_mt "HullKeepers$House" hk_m131 := hk_Mb_ok 2157 513 2156 0 rfl (by decide +kernel)
set_option maxRecDepth 100000 in
theorem hk_o132 : hk_Mok hk_cls hk_kd hk_wl hk_mt "HullKeepers$House" hk_m132 := hk_Mb_ok 2162 515 2160 2161 rfl (by decide +kernel)
set_option maxRecDepth 100000 in
theorem hk_o133 : hk_Mok hk_cls hk_kd hk_wl hk_mt "HullKeepers$House" hk_m133 := hk_Mb_ok 2167 515 2165 2166 rfl (by decide +kernel)
set_option maxRecDepth 100000 in
theorem hk_o134 : hk_Mok hk_cls hk_kd hk_wl hk_mt "HullKeepers$House" hk_m134 := hk_Mb_ok 2173 522 2172 0 rfl (by decide +kernel)
set_option maxRecDepth 100000 in
theorem hk_o135 : hk_Mok hk_cls hk_kd hk_wl hk_mt "HullKeepers$House" hk_m135 := hk_Mb_ok 2219 522 2217 2218 rfl (by decide +kernel)
set_option maxRecDepth 100000 in
theorem hk_o136 : hk_Mok hk_cls hk_kd hk_wl hk_mt "HullKeepers$House" hk_m136 := hk_Mb_ok 2222 522 2221 0 rfl (by decide +kernel)
set_option maxRecDepth 100000 in
theorem hk_o137 : hk_Mok hk_cls hk_kd hk_wl hk_mt "HullKeepers$House" hk_m137 := hk_Mb_ok 2227 522 2226 37 rfl (by decide +kernel)
set_option maxRecDepth 100000 in
theorem hk_o138 : hk_Mok hk_cls hk_kd hk_wl hk_mt "HullKeepers$House" hk_m138 := hk_Mb_ok 2231 522 2229 2230 rfl (by decide +kernel)
set_option maxRecDepth 100000 in
theorem hk_o139 : hk_Mok hk_cls hk_kd hk_wl hk_mt "HullKeepers$House" hk_m139 := hk_Mb_ok 2235 522 2234 38 rfl (by decide +kernel)
set_option maxRecDepth 100000 in
theorem hk_o140 : hk_Mok hk_cls hk_kd hk_wl hk_mt "HullKeepers$House" hk_m140 := hk_Mb_ok 2239 522 2237 2238 rfl (by decide +kernel)
set_option maxRecDepth 100000 in
theorem hk_o141 : hk_Mok hk_cls hk_kd hk_wl hk_mt "HullKeepers$House" hk_m141 := hk_Mb_ok 2243 522 2242 39 rfl (by decide +kernel)
set_option maxRecDepth 100000 in
theorem hk_o142 : hk_Mok hk_cls hk_kd hk_wl hk_mt "HullKeepers$House" hk_m142 := hk_Mb_ok 2247 522 2246 40 rfl (by decide +kernel)
set_option maxRecDepth 100000 in
theorem hk_o143 : hk_Mok hk_cls hk_kd hk_wl hk_mt "HullKeepers$House" hk_m143 := hk_Mb_ok 2251 522 2249 2250 rfl (by decide +kernel)
set_option maxRecDepth 100000 in
theorem hk_o144 : hk_Mok hk_cls hk_kd hk_wl hk_mt "HullKeepers$House" hk_m144 := hk_Mb_ok 2255 522 2254 41 rfl (by decide +kernel)
set_option maxRecDepth 100000 in
theorem hk_o145 : hk_Mok hk_cls hk_kd hk_wl hk_mt "HullKeepers$House" hk_m145 := hk_Mb_ok 2259 522 2257 2258 rfl (by decide +kernel)
set_option maxRecDepth 100000 in
theorem hk_o146 : hk_Mok hk_cls hk_kd hk_wl hk_mt "HullKeepers$House" hk_m146 := hk_Mb_ok 2263 522 2261 2262 rfl (by decide +kernel)
set_option maxRecDepth 100000 in
theorem hk_o147 : hk_Mok hk_cls hk_kd hk_wl hk_mt "HullKeepers$House" hk_m147 := hk_Mb_ok 2267 522 2265 2266 rfl (by decide +kernel)
set_option maxRecDepth 100000 in
theorem hk_o148 : hk_Mok hk_cls hk_kd hk_wl hk_mt "HullKeepers$House" hk_m148 := hk_Mb_ok 2271 522 2269 2270 rfl (by decide +kernel)
set_option maxRecDepth 100000 in
theorem hk_o149 : hk_Mok hk_cls hk_kd hk_wl hk_mt "HullKeepers$House" hk_m149 := hk_Mb_ok 2276 522 2274 2275 rfl (by decide +kernel)
set_option maxRecDepth 100000 in
theorem hk_o150 : hk_Mok hk_cls hk_kd hk_wl hk_mt "HullKeepers$House" hk_m150 := hk_Mb_ok 2280 522 2279 42 rfl (by decide +kernel)
set_option maxRecDepth 100000 in
theorem hk_o151 : hk_Mok hk_cls hk_kd hk_wl hk_mt "HullKeepers$House" hk_m151 := hk_Mb_ok 2284 522 2283 43 rfl (by decide +kernel)
set_option maxRecDepth 100000 in
theorem hk_o152 : hk_Mok hk_cls hk_kd hk_wl hk_mt "HullKeepers$House" hk_m152 := hk_Mb_ok 2560 522 2287 44 rfl (by decide +kernel)
set_option maxRecDepth 100000 in
theorem hk_o153 : hk_Mok hk_cls hk_kd hk_wl hk_mt "HullKeepers$House" hk_m153 := hk_Mb_ok 2564 522 2563 45 rfl (by decide +kernel)
set_option maxRecDepth 100000 in
theorem hk_o154 : hk_Mok hk_cls hk_kd hk_wl hk_mt "HullKeepers$House" hk_m154 := hk_Mb_ok 2568 522 2567 46 rfl (by decide +kernel)
set_option maxRecDepth 100000 in
theorem hk_o155 : hk_Mok hk_cls hk_kd hk_wl hk_mt "HullKeepers$House" hk_m155 := hk_Mb_ok 2572 522 2570 2571 rfl (by decide +kernel)
set_option maxRecDepth 100000 in
theorem hk_o156 : hk_Mok hk_cls hk_kd hk_wl hk_mt "HullKeepers$House" hk_m156 := hk_Mb_ok 2576 522 2575 47 rfl (by decide +kernel)
set_option maxRecDepth 100000 in
theorem hk_o157 : hk_Mok hk_cls hk_kd hk_wl hk_mt "HullKeepers$House" hk_m157 := hk_Mb_ok 2580 522 2579 48 rfl (by decide +kernel)
set_option maxRecDepth 100000 in
theorem hk_o158 : hk_Mok hk_cls hk_kd hk_wl hk_mt "HullKeepers$House" hk_m158 := hk_Mb_ok 2584 522 2583 49 rfl (by decide +kernel)
set_option maxRecDepth 100000 in
theorem hk_o159 : hk_Mok hk_cls hk_kd hk_wl hk_mt "HullKeepers$House" hk_m159 := hk_Mb_ok 2588 522 2586 2587 rfl (by decide +kernel)
set_option maxRecDepth 100000 in
theorem hk_o160 : hk_Mok hk_cls hk_kd hk_wl hk_mt "HullKeepers$House" hk_m160 := hk_Mb_ok 2592 522 2590 2591 rfl (by decide +kernel)
set_option maxRecDepth 100000 in
theorem hk_o161 : hk_Mok hk_cls hk_kd hk_wl hk_mt "HullKeepers$House" hk_m161 := hk_Mb_ok 2596 522 2595 50 rfl (by decide +kernel)
set_option maxRecDepth 100000 in
theorem hk_o162 : hk_Mok hk_cls hk_kd hk_wl hk_mt "HullKeepers$House" hk_m162 := hk_Mb_ok 2600 522 2599 51 rfl (by decide +kernel)
set_option maxRecDepth 100000 in
theorem hk_o163 : hk_Mok hk_cls hk_kd hk_wl hk_mt "HullKeepers$House" hk_m163 := hk_Mb_ok 2604 522 2603 52 rfl (by decide +kernel)
set_option maxRecDepth 100000 in
theorem hk_o164 : hk_Mok hk_cls hk_kd hk_wl hk_mt "HullKeepers$House" hk_m164 := hk_Mb_ok 2607 522 2606 0 rfl (by decide +kernel)
set_option maxRecDepth 100000 in
theorem hk_o165 : hk_Mok hk_cls hk_kd hk_wl hk_mt "HullKeepers$House" hk_m165 := hk_Mb_ok 2611 522 2610 53 rfl (by decide +kernel)
set_option maxRecDepth 100000 in
theorem hk_o166 : hk_Mok hk_cls hk_kd hk_wl hk_mt "HullKeepers$House" hk_m166 := hk_Mb_ok 2614 522 2613 0 rfl (by decide +kernel)
set_option maxRecDepth 100000 in
theorem hk_o167 : hk_Mok hk_cls hk_kd hk_wl hk_mt "HullKeepers$House" hk_m167 := hk_Mb_ok 2618 522 2617 54 rfl (by decide +kernel)
set_option maxRecDepth 100000 in
theorem hk_o168 : hk_Mok hk_cls hk_kd hk_wl hk_mt "HullKeepers$House" hk_m168 := hk_Mb_ok 2622 522 2621 55 rfl (by decide +kernel)
set_option maxRecDepth 100000 in
theorem hk_o169 : hk_Mok hk_cls hk_kd hk_wl hk_mt "HullKeepers$House" hk_m169 := hk_Mb_ok 2625 522 2624 0 rfl (by decide +kernel)
set_option maxRecDepth 100000 in
theorem hk_o170 : hk_Mok hk_cls hk_kd hk_wl hk_mt "HullKeepers$House" hk_m170 := hk_Mb_ok 2629 522 2628 56 rfl (by decide +kernel)
set_option maxRecDepth 100000 in
theorem hk_o171 : hk_Mok hk_cls hk_kd hk_wl hk_mt "HullKeepers$House" hk_m171 := hk_Mb_ok 2633 522 2632 57 rfl (by decide +kernel)
set_option maxRecDepth 100000 in
theorem hk_o172 : hk_Mok hk_cls hk_kd hk_wl hk_mt "HullKeepers$House" hk_m172 := hk_Mb_ok 2636 522 2635 0 rfl (by decide +kernel)
set_option maxRecDepth 100000 in
theorem hk_o173 : hk_Mok hk_cls hk_kd hk_wl hk_mt "HullKeepers$House" hk_m173 := hk_Mb_ok 2640 522 2638 2639 rfl (by decide +kernel)
set_option maxRecDepth 100000 in
theorem hk_o174 : hk_Mok hk_cls hk_kd hk_wl hk_mt "HullKeepers$House" hk_m174 := hk_Mb_ok 2644 522 2642 2643 rfl (by decide +kernel)
set_option maxRecDepth 100000 in
theorem hk_o175 : hk_Mok hk_cls hk_kd hk_wl hk_mt "HullKeepers$House" hk_m175 := hk_Mb_ok 2648 522 2646 2647 rfl (by decide +kernel)
set_option maxRecDepth 100000 in
theorem hk_o176 : hk_Mok hk_cls hk_kd hk_wl hk_mt "HullKeepers$House" hk_m176 := hk_Mb_ok 2651 522 2650 0 rfl (by decide +kernel)
set_option maxRecDepth 100000 in
theorem hk_o177 : hk_Mok hk_cls hk_kd hk_wl hk_mt "HullKeepers$House" hk_m177 := hk_Mb_ok 2655 522 2653 2654 rfl (by decide +kernel)
set_option maxRecDepth 100000 in
theorem hk_o178 : hk_Mok hk_cls hk_kd hk_wl hk_mt "HullKeepers$House" hk_m178 := hk_Mb_ok 2659 522 2657 2658 rfl (by decide +kernel)
set_option maxRecDepth 100000 in
theorem hk_o179 : hk_Mok hk_cls hk_kd hk_wl hk_mt "HullKeepers$House" hk_m179 := hk_Mb_ok 2662 522 2661 0 rfl (by decide +kernel)
set_option maxRecDepth 100000 in
theorem hk_o180 : hk_Mok hk_cls hk_kd hk_wl hk_mt "HullKeepers$House" hk_m180 := hk_Mb_ok 2666 522 2665 58 rfl (by decide +kernel)
set_option maxRecDepth 100000 in
theorem hk_o181 : hk_Mok hk_cls hk_kd hk_wl hk_mt "HullKeepers$House" hk_m181 := hk_Mb_ok 2670 522 2669 59 rfl (by decide +kernel)
set_option maxRecDepth 100000 in
theorem hk_o182 : hk_Mok hk_cls hk_kd hk_wl hk_mt "HullKeepers$House" hk_m182 := hk_Mb_ok 2674 522 2673 60 rfl (by decide +kernel)
set_option maxRecDepth 100000 in
theorem hk_o183 : hk_Mok hk_cls hk_kd hk_wl hk_mt "HullKeepers$House" hk_m183 := hk_Mb_ok 2678 522 2676 2677 rfl (by decide +kernel)
set_option maxRecDepth 100000 in
theorem hk_o184 : hk_Mok hk_cls hk_kd hk_wl hk_mt "HullKeepers$House" hk_m184 := hk_Mb_ok 2682 522 2681 61 rfl (by decide +kernel)
set_option maxRecDepth 100000 in
theorem hk_o185 : hk_Mok hk_cls hk_kd hk_wl hk_mt "HullKeepers$House" hk_m185 := hk_Mb_ok 2686 522 2684 2685 rfl (by decide +kernel)
set_option maxRecDepth 100000 in
theorem hk_o186 : hk_Mok hk_cls hk_kd hk_wl hk_mt "HullKeepers$House" hk_m186 := hk_Mb_ok 2690 522 2688 2689 rfl (by decide +kernel)
set_option maxRecDepth 100000 in
theorem hk_o187 : hk_Mok hk_cls hk_kd hk_wl hk_mt "HullKeepers$House" hk_m187 := hk_Mb_ok 2693 522 2692 0 rfl (by decide +kernel)
set_option maxRecDepth 100000 in
theorem hk_o188 : hk_Mok hk_cls hk_kd hk_wl hk_mt "HullKeepers$House" hk_m188 := hk_Mb_ok 2697 522 2695 2696 rfl (by decide +kernel)
set_option maxRecDepth 100000 in
theorem hk_o189 : hk_Mok hk_cls hk_kd hk_wl hk_mt "HullKeepers$House" hk_m189 := hk_Mb_ok 2701 522 2699 2700 rfl (by decide +kernel)
set_option maxRecDepth 100000 in
theorem hk_o190 : hk_Mok hk_cls hk_kd hk_wl hk_mt "HullKeepers$House" hk_m190 := hk_Mb_ok 2705 522 2703 2704 rfl (by decide +kernel)
set_option maxRecDepth 100000 in
theorem hk_o191 : hk_Mok hk_cls hk_kd hk_wl hk_mt "HullKeepers$House" hk_m191 := hk_Mb_ok 2711 522 2709 2710 rfl (by decide +kernel)
set_option maxRecDepth 100000 in
theorem hk_o192 : hk_Mok hk_cls hk_kd hk_wl hk_mt "HullKeepers$House" hk_m192 := hk_Mb_ok 2715 522 2713 2714 rfl (by decide +kernel)
set_option maxRecDepth 100000 in
theorem hk_o193 : hk_Mok hk_cls hk_kd hk_wl hk_mt "HullKeepers$House" hk_m193 := hk_Mb_ok 2719 522 2717 2718 rfl (by decide +kernel)
set_option maxRecDepth 100000 in
theorem hk_o194 : hk_Mok hk_cls hk_kd hk_wl hk_mt "HullKeepers$House" hk_m194 := hk_Mb_ok 2723 522 2721 2722 rfl (by decide +kernel)
set_option maxRecDepth 100000 in
theorem hk_o195 : hk_Mok hk_cls hk_kd hk_wl hk_mt "HullKeepers$House" hk_m195 := hk_Mb_ok 2727 522 2725 2726 rfl (by decide +kernel)
set_option maxRecDepth 100000 in
theorem hk_o196 : hk_Mok hk_cls hk_kd hk_wl hk_mt "HullKeepers$House" hk_m196 := hk_Mb_ok 2731 522 2730 62 rfl (by decide +kernel)
set_option maxRecDepth 100000 in
theorem hk_o197 : hk_Mok hk_cls hk_kd hk_wl hk_mt "HullKeepers$House" hk_m197 := hk_Mb_ok 2736 522 2735 63 rfl (by decide +kernel)
set_option maxRecDepth 100000 in
theorem hk_o198 : hk_Mok hk_cls hk_kd hk_wl hk_mt "HullKeepers$House" hk_m198 := hk_Mb_ok 2740 522 2739 64 rfl (by decide +kernel)
set_option maxRecDepth 100000 in
theorem hk_o199 : hk_Mok hk_cls hk_kd hk_wl hk_mt "HullKeepers$House" hk_m199 := hk_Mb_ok 2745 522 2744 65 rfl (by decide +kernel)
set_option maxRecDepth 100000 in
theorem hk_o200 : hk_Mok hk_cls hk_kd hk_wl hk_mt "HullKeepers$House" hk_m200 := hk_Mb_ok 2748 522 2747 0 rfl (by decide +kernel)
set_option maxRecDepth 100000 in
theorem hk_o201 : hk_Mok hk_cls hk_kd hk_wl hk_mt "HullKeepers$House" hk_m201 := hk_Mb_ok 2752 522 2751 66 rfl (by decide +kernel)
set_option maxRecDepth 100000 in
theorem hk_o202 : hk_Mok hk_cls hk_kd hk_wl hk_mt "HullKeepers$House" hk_m202 := hk_Mb_ok 2756 522 2755 67 rfl (by decide +kernel)
set_option maxRecDepth 100000 in
theorem hk_o203 : hk_Mok hk_cls hk_kd hk_wl hk_mt "HullKeepers$House" hk_m203 := hk_Mb_ok 2760 522 2759 68 rfl (by decide +kernel)
set_option maxRecDepth 100000 in
theorem hk_o204 : hk_Mok hk_cls hk_kd hk_wl hk_mt "HullKeepers$House" hk_m204 := hk_Mb_ok 2764 522 2763 69 rfl (by decide +kernel)
set_option maxRecDepth 100000 in
theorem hk_o205 : hk_Mok hk_cls hk_kd hk_wl hk_mt "HullKeepers$House" hk_m205 := hk_Mb_ok 2768 522 2766 2767 rfl (by decide +kernel)
set_option maxRecDepth 100000 in
theorem hk_o206 : hk_Mok hk_cls hk_kd hk_wl hk_mt "HullKeepers$House" hk_m206 := hk_Mb_ok 2772 522 2770 2771 rfl (by decide +kernel)
set_option maxRecDepth 100000 in
theorem hk_o207 : hk_Mok hk_cls hk_kd hk_wl hk_mt "HullKeepers$House" hk_m207 := hk_Mb_ok 2776 522 2774 2775 rfl (by decide +kernel)
set_option maxRecDepth 100000 in
theorem hk_o208 : hk_Mok hk_cls hk_kd hk_wl hk_mt "HullKeepers$House" hk_m208 := hk_Mb_ok 2780 522 2778 2779 rfl (by decide +kernel)
set_option maxRecDepth 100000 in
theorem hk_o209 : hk_Mok hk_cls hk_kd hk_wl hk_mt "HullKeepers$House" hk_m209 := hk_Mb_ok 2784 522 2783 70 rfl (by decide +kernel)
set_option maxRecDepth 100000 in
theorem hk_o210 : hk_Mok hk_cls hk_kd hk_wl hk_mt "HullKeepers$House" hk_m210 := hk_Mb_ok 2788 522 2786 2787 rfl (by decide +kernel)
set_option maxRecDepth 100000 in
theorem hk_o211 : hk_Mok hk_cls hk_kd hk_wl hk_mt "HullKeepers$House" hk_m211 := hk_Mb_ok 2792 522 2790 2791 rfl (by decide +kernel)
set_option maxRecDepth 100000 in
theorem hk_o212 : hk_Mok hk_cls hk_kd hk_wl hk_mt "HullKeepers$House" hk_m212 := hk_Mb_ok 2796 522 2794 2795 rfl (by decide +kernel)
set_option maxRecDepth 100000 in
theorem hk_o213 : hk_Mok hk_cls hk_kd hk_wl hk_mt "HullKeepers$House" hk_m213 := hk_Mb_ok 3072 522 2798 2799 rfl (by decide +kernel)
set_option maxRecDepth 100000 in
theorem hk_o214 : hk_Mok hk_cls hk_kd hk_wl hk_mt "HullKeepers$House" hk_m214 := hk_Mb_ok 3076 522 3074 3075 rfl (by decide +kernel)
set_option maxRecDepth 100000 in
theorem hk_o215 : hk_Mok hk_cls hk_kd hk_wl hk_mt "HullKeepers$House" hk_m215 := hk_Mb_ok 3080 522 3079 71 rfl (by decide +kernel)
set_option maxRecDepth 100000 in
theorem hk_o216 : hk_Mok hk_cls hk_kd hk_wl hk_mt "HullKeepers$House" hk_m216 := hk_Mb_ok 3084 522 3082 3083 rfl (by decide +kernel)
set_option maxRecDepth 100000 in
theorem hk_o217 : hk_Mok hk_cls hk_kd hk_wl hk_mt "HullKeepers$House" hk_m217 := hk_Mb_ok 3088 522 3086 3087 rfl (by decide +kernel)
set_option maxRecDepth 100000 in
theorem hk_o218 : hk_Mok hk_cls hk_kd hk_wl hk_mt "HullKeepers$House" hk_m218 := hk_Mb_ok 3092 522 3090 3091 rfl (by decide +kernel)
set_option maxRecDepth 100000 in
theorem hk_o219 : hk_Mok hk_cls hk_kd hk_wl hk_mt "HullKeepers$House" hk_m219 := hk_Mb_ok 3096 522 3094 3095 rfl (by decide +kernel)
set_option maxRecDepth 100000 in
theorem hk_o220 : hk_Mok hk_cls hk_kd hk_wl hk_mt "HullKeepers$House" hk_m220 := hk_Mb_ok 3100 522 3099 72 rfl (by decide +kernel)
set_option maxRecDepth 100000 in
theorem hk_o221 : hk_Mok hk_cls hk_kd hk_wl hk_mt "HullKeepers$House" hk_m221 := hk_Mb_ok 3104 522 3102 3103 rfl (by decide +kernel)
set_option maxRecDepth 100000 in
theorem hk_o222 : hk_Mok hk_cls hk_kd hk_wl hk_mt "HullKeepers$House" hk_m222 := hk_Mb_ok 3110 522 3109 73 rfl (by decide +kernel)
set_option maxRecDepth 100000 in
theorem hk_all : ∀ q ∈ hk_ml, hk_Mok hk_cls hk_kd hk_wl hk_mt "HullKeepers$House" q := List.forall_mem_cons.mpr ⟨hk_o0, List.forall_mem_cons.mpr ⟨hk_o1, List.forall_mem_cons.mpr ⟨hk_o2, List.forall_mem_cons.mpr ⟨hk_o3, List.forall_mem_cons.mpr ⟨hk_o4, List.forall_mem_cons.mpr ⟨hk_o5, List.forall_mem_cons.mpr ⟨hk_o6, List.forall_mem_cons.mpr ⟨hk_o7, List.forall_mem_cons.mpr ⟨hk_o8, List.forall_mem_cons.mpr ⟨hk_o9, List.forall_mem_cons.mpr ⟨hk_o10, List.forall_mem_cons.mpr ⟨hk_o11, List.forall_mem_cons.mpr ⟨hk_o12, List.forall_mem_cons.mpr ⟨hk_o13, List.forall_mem_cons.mpr ⟨hk_o14, List.forall_mem_cons.mpr ⟨hk_o15, List.forall_mem_cons.mpr ⟨hk_o16, List.forall_mem_cons.mpr ⟨hk_o17, List.forall_mem_cons.mpr ⟨hk_o18, List.forall_mem_cons.mpr ⟨hk_o19, List.forall_mem_cons.mpr ⟨hk_o20, List.forall_mem_cons.mpr ⟨hk_o21, List.forall_mem_cons.mpr ⟨hk_o22, List.forall_mem_cons.mpr ⟨hk_o23, List.forall_mem_cons.mpr ⟨hk_o24, List.forall_mem_cons.mpr ⟨hk_o25, List.forall_mem_cons.mpr ⟨hk_o26, List.forall_mem_cons.mpr ⟨hk_o27, List.forall_mem_cons.mpr ⟨hk_o28, List.forall_mem_cons.mpr ⟨hk_o29, List.forall_mem_cons.mpr ⟨hk_o30, List.forall_mem_cons.mpr ⟨hk_o31, List.forall_mem_cons.mpr ⟨hk_o32, List.forall_mem_cons.mpr ⟨hk_o33, List.forall_mem_cons.mpr ⟨hk_o34, List.forall_mem_cons.mpr ⟨hk_o35, List.forall_mem_cons.mpr ⟨hk_o36, List.forall_mem_cons.mpr ⟨hk_o37, List.forall_mem_cons.mpr ⟨hk_o38, List.forall_mem_cons.mpr ⟨hk_o39, List.forall_mem_cons.mpr ⟨hk_o40, List.forall_mem_cons.mpr ⟨hk_o41, List.forall_mem_cons.mpr ⟨hk_o42, List.forall_mem_cons.mpr ⟨hk_o43, List.forall_mem_cons.mpr ⟨hk_o44, List.forall_mem_cons.mpr ⟨hk_o45, List.forall_mem_cons.mpr ⟨hk_o46, List.forall_mem_cons.mpr ⟨hk_o47, List.forall_mem_cons.mpr ⟨hk_o48, List.forall_mem_cons.mpr ⟨hk_o49, List.forall_mem_cons.mpr ⟨hk_o50, List.forall_mem_cons.mpr ⟨hk_o51, List.forall_mem_cons.mpr ⟨hk_o52, List.forall_mem_cons.mpr ⟨hk_o53, List.forall_mem_cons.mpr ⟨hk_o54, List.forall_mem_cons.mpr ⟨hk_o55, List.forall_mem_cons.mpr ⟨hk_o56, List.forall_mem_cons.mpr ⟨hk_o57, List.forall_mem_cons.mpr ⟨hk_o58, List.forall_mem_cons.mpr ⟨hk_o59, List.forall_mem_cons.mpr ⟨hk_o60, List.forall_mem_cons.mpr ⟨hk_o61, List.forall_mem_cons.mpr ⟨hk_o62, List.forall_mem_cons.mpr ⟨hk_o63, List.forall_mem_cons.mpr ⟨hk_o64, List.forall_mem_cons.mpr ⟨hk_o65, List.forall_mem_cons.mpr ⟨hk_o66, List.forall_mem_cons.mpr ⟨hk_o67, List.forall_mem_cons.mpr ⟨hk_o68, List.forall_mem_cons.mpr ⟨hk_o69, List.forall_mem_cons.mpr ⟨hk_o70, List.forall_mem_cons.mpr ⟨hk_o71, List.forall_mem_cons.mpr ⟨hk_o72, List.forall_mem_cons.mpr ⟨hk_o73, List.forall_mem_cons.mpr ⟨hk_o74, List.forall_mem_cons.mpr ⟨hk_o75, List.forall_mem_cons.mpr ⟨hk_o76, List.forall_mem_cons.mpr ⟨hk_o77, List.forall_mem_cons.mpr ⟨hk_o78, List.forall_mem_cons.mpr ⟨hk_o79, List.forall_mem_cons.mpr ⟨hk_o80, List.forall_mem_cons.mpr ⟨hk_o81, List.forall_mem_cons.mpr ⟨hk_o82, List.forall_mem_cons.mpr ⟨hk_o83, List.forall_mem_cons.mpr ⟨hk_o84, List.forall_mem_cons.mpr ⟨hk_o85, List.forall_mem_cons.mpr ⟨hk_o86, List.forall_mem_cons.mpr ⟨hk_o87, List.forall_mem_cons.mpr ⟨hk_o88, List.forall_mem_cons.mpr ⟨hk_o89, List.forall_mem_cons.mpr ⟨hk_o90, List.forall_mem_cons.mpr ⟨hk_o91, List.forall_mem_cons.mpr ⟨hk_o92, List.forall_mem_cons.mpr ⟨hk_o93, List.forall_mem_cons.mpr ⟨hk_o94, List.forall_mem_cons.mpr ⟨hk_o95, List.forall_mem_cons.mpr ⟨hk_o96, List.forall_mem_cons.mpr ⟨hk_o97, List.forall_mem_cons.mpr ⟨hk_o98, List.forall_mem_cons.mpr ⟨hk_o99, List.forall_mem_cons.mpr ⟨hk_o100, List.forall_mem_cons.mpr ⟨hk_o101, List.forall_mem_cons.mpr ⟨hk_o102, List.forall_mem_cons.mpr ⟨hk_o103, List.forall_mem_cons.mpr ⟨hk_o104, List.forall_mem_cons.mpr ⟨hk_o105, List.forall_mem_cons.mpr ⟨hk_o106, List.forall_mem_cons.mpr ⟨hk_o107, List.forall_mem_cons.mpr ⟨hk_o108, List.forall_mem_cons.mpr ⟨hk_o109, List.forall_mem_cons.mpr ⟨hk_o110, List.forall_mem_cons.mpr ⟨hk_o111, List.forall_mem_cons.mpr ⟨hk_o112, List.forall_mem_cons.mpr ⟨hk_o113, List.forall_mem_cons.mpr ⟨hk_o114, List.forall_mem_cons.mpr ⟨hk_o115, List.forall_mem_cons.mpr ⟨hk_o116, List.forall_mem_cons.mpr ⟨hk_o117, List.forall_mem_cons.mpr ⟨hk_o118, List.forall_mem_cons.mpr ⟨hk_o119, List.forall_mem_cons.mpr ⟨hk_o120, List.forall_mem_cons.mpr ⟨hk_o121, List.forall_mem_cons.mpr ⟨hk_o122, List.forall_mem_cons.mpr ⟨hk_o123, List.forall_mem_cons.mpr ⟨hk_o124, List.forall_mem_cons.mpr ⟨hk_o125, List.forall_mem_cons.mpr ⟨hk_o126, List.forall_mem_cons.mpr ⟨hk_o127, List.forall_mem_cons.mpr ⟨hk_o128, List.forall_mem_cons.mpr ⟨hk_o129, List.forall_mem_cons.mpr ⟨hk_o130, List.forall_mem_cons.mpr ⟨hk_o131, List.forall_mem_cons.mpr ⟨hk_o132, List.forall_mem_cons.mpr ⟨hk_o133, List.forall_mem_cons.mpr ⟨hk_o134, List.forall_mem_cons.mpr ⟨hk_o135, List.forall_mem_cons.mpr ⟨hk_o136, List.forall_mem_cons.mpr ⟨hk_o137, List.forall_mem_cons.mpr ⟨hk_o138, List.forall_mem_cons.mpr ⟨hk_o139, List.forall_mem_cons.mpr ⟨hk_o140, List.forall_mem_cons.mpr ⟨hk_o141, List.forall_mem_cons.mpr ⟨hk_o142, List.forall_mem_cons.mpr ⟨hk_o143, List.forall_mem_cons.mpr ⟨hk_o144, List.forall_mem_cons.mpr ⟨hk_o145, List.forall_mem_cons.mpr ⟨hk_o146, List.forall_mem_cons.mpr ⟨hk_o147, List.forall_mem_cons.mpr ⟨hk_o148, List.forall_mem_cons.mpr ⟨hk_o149, List.forall_mem_cons.mpr ⟨hk_o150, List.forall_mem_cons.mpr ⟨hk_o151, List.forall_mem_cons.mpr ⟨hk_o152, List.forall_mem_cons.mpr ⟨hk_o153, List.forall_mem_cons.mpr ⟨hk_o154, List.forall_mem_cons.mpr ⟨hk_o155, List.forall_mem_cons.mpr ⟨hk_o156, List.forall_mem_cons.mpr ⟨hk_o157, List.forall_mem_cons.mpr ⟨hk_o158, List.forall_mem_cons.mpr ⟨hk_o159, List.forall_mem_cons.mpr ⟨hk_o160, List.forall_mem_cons.mpr ⟨hk_o161, List.forall_mem_cons.mpr ⟨hk_o162, List.forall_mem_cons.mpr ⟨hk_o163, List.forall_mem_cons.mpr ⟨hk_o164, List.forall_mem_cons.mpr ⟨hk_o165, List.forall_mem_cons.mpr ⟨hk_o166, List.forall_mem_cons.mpr ⟨hk_o167, List.forall_mem_cons.mpr ⟨hk_o168, List.forall_mem_cons.mpr ⟨hk_o169, List.forall_mem_cons.mpr ⟨hk_o170, List.forall_mem_cons.mpr ⟨hk_o171, List.forall_mem_cons.mpr ⟨hk_o172, List.forall_mem_cons.mpr ⟨hk_o173, List.forall_mem_cons.mpr ⟨hk_o174, List.forall_mem_cons.mpr ⟨hk_o175, List.forall_mem_cons.mpr ⟨hk_o176, List.forall_mem_cons.mpr ⟨hk_o177, List.forall_mem_cons.mpr ⟨hk_o178, List.forall_mem_cons.mpr ⟨hk_o179, List.forall_mem_cons.mpr ⟨hk_o180, List.forall_mem_cons.mpr ⟨hk_o181, List.forall_mem_cons.mpr ⟨hk_o182, List.forall_mem_cons.mpr ⟨hk_o183, List.forall_mem_cons.mpr ⟨hk_o184, List.forall_mem_cons.mpr ⟨hk_o185, List.forall_mem_cons.mpr ⟨hk_o186, List.forall_mem_cons.mpr ⟨hk_o187, List.forall_mem_cons.mpr ⟨hk_o188, List.forall_mem_cons.mpr ⟨hk_o189, List.forall_mem_cons.mpr ⟨hk_o190, List.forall_mem_cons.mpr ⟨hk_o191, List.forall_mem_cons.mpr ⟨hk_o192, List.forall_mem_cons.mpr ⟨hk_o193, List.forall_mem_cons.mpr ⟨hk_o194, List.forall_mem_cons.mpr ⟨hk_o195, List.forall_mem_cons.mpr ⟨hk_o196, List.forall_mem_cons.mpr ⟨hk_o197, List.forall_mem_cons.mpr ⟨hk_o198, List.forall_mem_cons.mpr ⟨hk_o199, List.forall_mem_cons.mpr ⟨hk_o200, List.forall_mem_cons.mpr ⟨hk_o201, List.forall_mem_cons.mpr ⟨hk_o202, List.forall_mem_cons.mpr ⟨hk_o203, List.forall_mem_cons.mpr ⟨hk_o204, List.forall_mem_cons.mpr ⟨hk_o205, List.forall_mem_cons.mpr ⟨hk_o206, List.forall_mem_cons.mpr ⟨hk_o207, List.forall_mem_cons.mpr ⟨hk_o208, List.forall_mem_cons.mpr ⟨hk_o209, List.forall_mem_cons.mpr ⟨hk_o210, List.forall_mem_cons.mpr ⟨hk_o211, List.forall_mem_cons.mpr ⟨hk_o212, List.forall_mem_cons.mpr ⟨hk_o213, List.forall_mem_cons.mpr ⟨hk_o214, List.forall_mem_cons.mpr ⟨hk_o215, List.forall_mem_cons.mpr ⟨hk_o216, List.forall_mem_cons.mpr ⟨hk_o217, List.forall_mem_cons.mpr ⟨hk_o218, List.forall_mem_cons.mpr ⟨hk_o219, List.forall_mem_cons.mpr ⟨hk_o220, List.forall_mem_cons.mpr ⟨hk_o221, List.forall_mem_cons.mpr ⟨hk_o222, fun _ h => absurd h List.not_mem_nil⟩⟩⟩⟩⟩⟩⟩⟩⟩⟩⟩⟩⟩⟩⟩⟩⟩⟩⟩⟩⟩⟩⟩⟩⟩⟩⟩⟩⟩⟩⟩⟩⟩⟩⟩⟩⟩⟩⟩⟩⟩⟩⟩⟩⟩⟩⟩⟩⟩⟩⟩⟩⟩⟩⟩⟩⟩⟩⟩⟩⟩⟩⟩⟩⟩⟩⟩⟩⟩⟩⟩⟩⟩⟩⟩⟩⟩⟩⟩⟩⟩⟩⟩⟩⟩⟩⟩⟩⟩⟩⟩⟩⟩⟩⟩⟩⟩⟩⟩⟩⟩⟩⟩⟩⟩⟩⟩⟩⟩⟩⟩⟩⟩⟩⟩⟩⟩⟩⟩⟩⟩⟩⟩⟩⟩⟩⟩⟩⟩⟩⟩⟩⟩⟩⟩⟩⟩⟩⟩⟩⟩⟩⟩⟩⟩⟩⟩⟩⟩⟩⟩⟩⟩⟩⟩⟩⟩⟩⟩⟩⟩⟩⟩⟩⟩⟩⟩⟩⟩⟩⟩⟩⟩⟩⟩⟩⟩⟩⟩⟩⟩⟩⟩⟩⟩⟩⟩⟩⟩⟩⟩⟩⟩⟩⟩⟩⟩⟩⟩⟩⟩⟩⟩⟩⟩⟩⟩⟩⟩⟩⟩⟩⟩⟩⟩⟩⟩⟩⟩⟩⟩⟩⟩
theorem hk_inst : ∀ q ∈ hk_cls, Jvm.Cond.instantiable q.1 q.2.2 ∈ hk_wl := List.forall_mem_cons.mpr ⟨hk_lk_in (b := 1044) (by decide +kernel), List.forall_mem_cons.mpr ⟨hk_lk_in (b := 535) (by decide +kernel), List.forall_mem_cons.mpr ⟨hk_lk_in (b := 1029) (by decide +kernel), List.forall_mem_cons.mpr ⟨hk_lk_in (b := 714) (by decide +kernel), List.forall_mem_cons.mpr ⟨hk_lk_in (b := 665) (by decide +kernel), List.forall_mem_cons.mpr ⟨hk_lk_in (b := 690) (by decide +kernel), List.forall_mem_cons.mpr ⟨hk_lk_in (b := 541) (by decide +kernel), List.forall_mem_cons.mpr ⟨hk_lk_in (b := 527) (by decide +kernel), List.forall_mem_cons.mpr ⟨hk_lk_in (b := 2170) (by decide +kernel), fun _ h => absurd h List.not_mem_nil⟩⟩⟩⟩⟩⟩⟩⟩⟩
theorem hk_shf {q k n : Nat} (h : hk_SH q = (k, n)) (hk : k ≠ 0) : q < 97 ∧ hk_shl[q]? = some (k, n) := by
  unfold hk_SH at h
  cases hq : hk_shl[q]? with
  | none => rw [hq] at h; cases h; exact absurd rfl hk
  | some x =>
    rw [hq] at h
    refine ⟨(List.getElem?_eq_some_iff.mp hq).1, ?_⟩
    rw [← h]
    rfl
set_option maxRecDepth 100000 in
theorem hk_TT : hk_T hk_SH 1 hk_cls hk_kd hk_wl hk_mt "HullKeepers$House" 96 := by
  refine ⟨hk_clsok, fun q n h => ?_, fun q n h => ?_, ⟨0, rfl⟩, ⟨_, rfl, rfl⟩, fun w hw => List.all_eq_true.mp hk_wl_good w hw, ⟨hk_lk_in (b := 568) (by decide +kernel), hk_lk_in (b := 2214) (by decide +kernel), hk_lk_in (b := 2215) (by decide +kernel), fun b w h => hk_lk_in h⟩, ⟨hk_lk_in (b := 532) (by decide +kernel), hk_lk_in (b := 533) (by decide +kernel), ⟨hk_lk_in (b := 516) (by decide +kernel), ⟨hk_lk_in (b := 547) (by decide +kernel), hk_lk_in (b := 548) (by decide +kernel)⟩, ⟨hk_lk_in (b := 1192) (by decide +kernel), hk_lk_in (b := 1193) (by decide +kernel)⟩, ⟨hk_lk_in (b := 1601) (by decide +kernel), hk_lk_in (b := 1602) (by decide +kernel)⟩, ⟨hk_lk_in (b := 1604) (by decide +kernel), hk_lk_in (b := 1605) (by decide +kernel)⟩⟩⟩, ⟨hk_lk_in (b := 2132) (by decide +kernel), hk_lk_in (b := 2131) (by decide +kernel), hk_lk_in (b := 525) (by decide +kernel)⟩, fun y q hq => hk_all q (List.mem_of_getElem? hq)⟩
  · have h2 := (hk_shf h (by decide)).2
    have h3 : hk_shl.all (fun s => !decide (s.1 = 1) || (hk_cls[s.2]?).isSome) = true := by decide +kernel
    have h4 := List.all_eq_true.mp h3 _ (List.mem_of_getElem? h2)
    simp only [decide_true, Bool.not_true, Bool.false_or] at h4
    exact Option.isSome_iff_exists.mp h4
  · have h2 := hk_shf h (by decide)
    have h3 : (List.range 97).all (fun i => !decide ((hk_SH i).1 = 6) || decide (i = 96)) = true := by decide +kernel
    have h4 := List.all_eq_true.mp h3 q (List.mem_range.mpr h2.1)
    rw [h] at h4
    simpa using h4
set_option maxRecDepth 100000 in
theorem hk_lw0 : ((hk_cL.drop 0).take 600).all (fun e => hk_eb e "HullKeepersLaw" false 2 4) = true := by decide +kernel
set_option maxRecDepth 100000 in
theorem hk_lw600 : ((hk_cL.drop 600).take 600).all (fun e => hk_eb e "HullKeepersLaw" false 2 4) = true := by decide +kernel
set_option maxRecDepth 100000 in
theorem hk_lwwlk : hk_wlk code code.data.toList 0 hk_cL = true := by decide +kernel
set_option maxRecDepth 100000 in
theorem hk_lwseq : hk_seq hk_cL = true := by decide +kernel
theorem hk_all_cut {cd : List hk_E} {f : hk_E → Bool} (k : Nat) (h1 : (cd.take k).all f = true) (h2 : (cd.drop k).all f = true) : cd.all f = true := by
  rw [← List.take_append_drop k cd, List.all_append, h1, h2]
  rfl
theorem hk_lwd600 : (hk_cL.drop 600).all (fun e => hk_eb e "HullKeepersLaw" false 2 4) = true := hk_all_cut 600 hk_lw600 (by rw [List.drop_drop]; exact (List.all_eq_true.mpr (fun e he => absurd he (by rw [List.drop_eq_nil_of_le (show hk_cL.length ≤ 1200 by decide +kernel)]; exact List.not_mem_nil))))
theorem hk_lwall : hk_cL.all (fun e => hk_eb e "HullKeepersLaw" false 2 4) = true := (hk_all_cut 600 hk_lw0 hk_lwd600)
