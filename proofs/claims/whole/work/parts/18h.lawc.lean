/-! the cases of the law -/
-- follow
set_option maxHeartbeats 4000000 in
set_option maxRecDepth 100000 in
theorem lc_43 {p : Program} {l : Launch} {e : Env} {s : State} {m : MethodId} {below : List Frame} {meth : Method} {c : Code} {Q : State → Prop} {D : va_G} {cA : Nat → ClassId} {adK adV ad am : Nat → Nat} {AA : Nat → Prop} {b0 L bo : Nat} {xs : Nat → Int32} (C : LCx p s m c D cA adK adV AA b0 L xs) {H : Heap} {locs : List Loc} {ls : Array Slot} {cells slots i : Nat} (hSt : LSt D cA ad am bo AA H) (hS : va_S AA s.heap H locs) (hl : lv_has ls 7 (lvL b0 ad am bo i)) (hi : i + 6 ≤ L) (hcl : cells + 1 ≤ room_1.cells ∧ slots + 6 ≤ room_1.slots) (K : LNx p l e s m below meth c Q D cA ad am bo AA b0 i cells slots) : W p l e room_1 s m #[Value.ref b0] below meth c H locs cells slots Q (F0 m 2094 ls []) := by
  obtain ⟨hx, hb, hml, hown, hts, hK, hA, hX, hbl, hbA, hE, hRR, hL, hPl⟩ := id C
  obtain ⟨n, h, b, t, fe, V, G, B, P, li, fr, tape, rdr, rrow, row, nx, past, T, A, ah, th, tp, va, we, pv, pw, pm, nv, nw, nm, nb, nt, nl, hbk, htk, sz, att, pl, so, nu, fa, fp, tv, tw, tm, o, fo, la, un, um, isC, md, fw, ou, hP, hD, hB, hTB, h6, hBy, hb2, ht, hTa, hAs⟩ := hSt
  obtain ⟨hR, hv, hp, hq⟩ := id hB
  obtain ⟨a, e5, e6⟩ := P_follow hR hv th (xs (i + 1)) (xs (i + 2)) (bo01 (xs (i + 3)))
  refine lv_aload_n hx hb dL_law_2094 rfl (lv_at hl 1 rfl) ?_
  refine la_arg C hS hl hi 1 (by omega) (by decide) dL_law_2095 dL_law_2096 dL_law_2098 dL_law_2099 dL_law_2100 ?_
  refine la_arg C hS hl hi 2 (by omega) (by decide) dL_law_2101 dL_law_2102 dL_law_2104 dL_law_2105 dL_law_2106 ?_
  refine la_arg C hS hl hi 3 (by omega) (by decide) dL_law_2107 dL_law_2108 dL_law_2110 dL_law_2111 dL_law_2112 ?_
  refine la_bool hx hb dL_law_2113 dL_law_2116 dL_law_2117 dL_law_2120 ?_
  refine xv_i (As := [.int (xs (i + 1)), .int (xs (i + 2)), .int (bo01 (xs (i + 3)))]) (rest := []) (ci := 5) (b := ad 0) ⟨hx, hb, hml, hown, hts⟩ hl.1 (kX5_follow l D cA ad (zI b) (zI t) li fr row (xs (i + 1)) (xs (i + 2)) (bo01 (xs (i + 3))) _ e5) (cwV 3 hts gL0_law_X5_follow rfl rfl rfl (by decide +kernel) ⟨Nat.le_of_ble_eq_true rfl, Nat.le_of_ble_eq_true rfl⟩) rfl hK hP hD hS hA 0 rfl rfl rfl [0, 7, 8, 9] rfl (by decide +kernel) rfl (Nat.le_of_ble_eq_true rfl) dL_law_2121 ⟨Nat.le_of_lt hcl.1, Nat.le_trans (Nat.le_add_right _ 6) hcl.2⟩ (fun H locs hP hD hS _ => ?_)
  have hP : va_P D vwCl (wL cA ad am bo (zI b) (zI t) li fr tape rdr rrow row nx past T A ah th tp (zI fe) va we (zI n) (zI b) (zI t) li pv pw pm (zI h) fr nv nw nm nb nt nl hbk htk sz att pl so nu fa fp rdr.2.2.2.1 rdr.2.2.2.2.1 tv tw tm o fo la un um isC md fw ou) H := hP
  have hD : va_D AA (wL cA ad am bo (zI b) (zI t) li fr tape rdr rrow row nx past T A ah th tp (zI fe) va we (zI n) (zI b) (zI t) li pv pw pm (zI h) fr nv nw nm nb nt nl hbk htk sz att pl so nu fa fp rdr.2.2.2.1 rdr.2.2.2.2.1 tv tw tm o fo la un um isC md fw ou) := hD
  refine lv_aload_n hx hb dL_law_2124 rfl (lv_at hl 2 rfl) ?_
  refine la_arg C hS hl hi 1 (by omega) (by decide) dL_law_2125 dL_law_2126 dL_law_2128 dL_law_2129 dL_law_2130 ?_
  refine la_arg C hS hl hi 2 (by omega) (by decide) dL_law_2131 dL_law_2132 dL_law_2134 dL_law_2135 dL_law_2136 ?_
  refine la_arg C hS hl hi 3 (by omega) (by decide) dL_law_2137 dL_law_2138 dL_law_2140 dL_law_2141 dL_law_2142 ?_
  refine la_bool hx hb dL_law_2143 dL_law_2146 dL_law_2147 dL_law_2150 ?_
  refine xv_i (As := [.int (xs (i + 1)), .int (xs (i + 2)), .int (bo01 (xs (i + 3)))]) (rest := [.int a]) (ci := 6) (b := am 0) ⟨hx, hb, hml, hown, hts⟩ hl.1 (kX6_follow l D cA am th tp (zI fe) va we (zI n) (zI b) (zI t) li pv pw pm (zI h) fr nv nw nm nb nt nl hbk htk sz att pl so nu fa fp rdr.2.2.2.1 rdr.2.2.2.2.1 tv tw tm o fo la un um isC md fw (xs (i + 1)) (xs (i + 2)) (bo01 (xs (i + 3))) _ e6) (cwV 3 hts gL0_law_X6_follow rfl rfl rfl (by decide +kernel) ⟨Nat.le_of_ble_eq_true rfl, Nat.le_of_ble_eq_true rfl⟩) rfl hK hP hD hS hA 62 rfl rfl rfl [62, 63, 64, 65, 66, 67, 68, 69, 70, 71, 72, 73, 74, 75, 76, 77, 78, 79] rfl (by decide +kernel) rfl (Nat.le_of_ble_eq_true rfl) dL_law_2151 ⟨Nat.le_of_lt hcl.1, Nat.le_trans (Nat.le_add_right _ 6) hcl.2⟩ (fun H locs hP hD hS _ => ?_)
  have hP : va_P D vwCl (wL cA ad am bo (zI b) (zI t) li fr tape rdr rrow row nx past T A ah (0 : Int32) tp (zI fe) va we (zI n) (zI b) (zI t) li pv pw pm (zI h) fr nv nw nm nb nt nl hbk htk sz att pl so nu fa fp rdr.2.2.2.1 rdr.2.2.2.2.1 tv tw tm o fo la un um isC md fw ou) H := hP
  have hD : va_D AA (wL cA ad am bo (zI b) (zI t) li fr tape rdr rrow row nx past T A ah (0 : Int32) tp (zI fe) va we (zI n) (zI b) (zI t) li pv pw pm (zI h) fr nv nw nm nb nt nl hbk htk sz att pl so nu fa fp rdr.2.2.2.1 rdr.2.2.2.2.1 tv tw tm o fo la un um isC md fw ou) := hD
  refine lv_icmp_eq (tgt := 2566) hx hb dL_law_2154 (by decide) (fun _ => ?_) (fun q => absurd rfl q)
  refine W.widen (Nat.le_add_right _ 1) (Nat.le_add_right _ 6) ?_
  exact K H locs ls ⟨n, h, b, t, fe, V, G, B, P, li, fr, tape, rdr, rrow, row, nx, past, T, A, ah, (0 : Int32), tp, va, we, pv, pw, pm, nv, nw, nm, nb, nt, nl, hbk, htk, sz, att, pl, so, nu, fa, fp, tv, tw, tm, o, fo, la, un, um, isC, md, fw, ou, hP, hD, hB, hTB, h6, hBy, hb2, ht, hTa, hAs⟩ hS hl
-- split
set_option maxHeartbeats 4000000 in
set_option maxRecDepth 100000 in
theorem lc_44 {p : Program} {l : Launch} {e : Env} {s : State} {m : MethodId} {below : List Frame} {meth : Method} {c : Code} {Q : State → Prop} {D : va_G} {cA : Nat → ClassId} {adK adV ad am : Nat → Nat} {AA : Nat → Prop} {b0 L bo : Nat} {xs : Nat → Int32} (C : LCx p s m c D cA adK adV AA b0 L xs) {H : Heap} {locs : List Loc} {ls : Array Slot} {cells slots i : Nat} (hSt : LSt D cA ad am bo AA H) (hS : va_S AA s.heap H locs) (hl : lv_has ls 7 (lvL b0 ad am bo i)) (hi : i + 6 ≤ L) (hcl : cells + 1 ≤ room_1.cells ∧ slots + 6 ≤ room_1.slots) (K : LNx p l e s m below meth c Q D cA ad am bo AA b0 i cells slots) : W p l e room_1 s m #[Value.ref b0] below meth c H locs cells slots Q (F0 m 2159 ls []) := by
  obtain ⟨hx, hb, hml, hown, hts, hK, hA, hX, hbl, hbA, hE, hRR, hL, hPl⟩ := id C
  obtain ⟨n, h, b, t, fe, V, G, B, P, li, fr, tape, rdr, rrow, row, nx, past, T, A, ah, th, tp, va, we, pv, pw, pm, nv, nw, nm, nb, nt, nl, hbk, htk, sz, att, pl, so, nu, fa, fp, tv, tw, tm, o, fo, la, un, um, isC, md, fw, ou, hP, hD, hB, hTB, h6, hBy, hb2, ht, hTa, hAs⟩ := hSt
  obtain ⟨hR, hv, hp, hq⟩ := id hB
  obtain ⟨a, T1, ah1, ⟨o1, fo1, la1, un1, um1⟩, e5, hT1, e6⟩ := P_split hR hv ht hTa th ah o fo la un um (xs (i + 1)) (xs (i + 2)) (xs (i + 3))
  refine lv_aload_n hx hb dL_law_2159 rfl (lv_at hl 1 rfl) ?_
  refine la_arg C hS hl hi 1 (by omega) (by decide) dL_law_2160 dL_law_2161 dL_law_2163 dL_law_2164 dL_law_2165 ?_
  refine la_arg C hS hl hi 2 (by omega) (by decide) dL_law_2166 dL_law_2167 dL_law_2169 dL_law_2170 dL_law_2171 ?_
  refine la_arg C hS hl hi 3 (by omega) (by decide) dL_law_2172 dL_law_2173 dL_law_2175 dL_law_2176 dL_law_2177 ?_
  refine xv_i (As := [.int (xs (i + 1)), .int (xs (i + 2)), .int (xs (i + 3))]) (rest := []) (ci := 5) (b := ad 0) ⟨hx, hb, hml, hown, hts⟩ hl.1 (kX5_split l D cA ad (zI b) (zI t) li fr row T ah (xs (i + 1)) (xs (i + 2)) (xs (i + 3)) _ e5) (cwV 3 hts gL0_law_X5_split rfl rfl rfl (by decide +kernel) ⟨Nat.le_of_ble_eq_true rfl, Nat.le_of_ble_eq_true rfl⟩) rfl hK hP hD hS hA 0 rfl rfl rfl [0, 7, 8, 9, 51, 52, 53, 54, 55, 61] rfl (by decide +kernel) rfl (Nat.le_of_ble_eq_true rfl) dL_law_2178 ⟨Nat.le_of_lt hcl.1, Nat.le_trans (Nat.le_add_right _ 6) hcl.2⟩ (fun H locs hP hD hS _ => ?_)
  have hP : va_P D vwCl (wL cA ad am bo (zI b) (zI t) li fr tape rdr rrow row nx past T1 A ah1 th tp (zI fe) va we (zI n) (zI b) (zI t) li pv pw pm (zI h) fr nv nw nm nb nt nl hbk htk sz att pl so nu fa fp rdr.2.2.2.1 rdr.2.2.2.2.1 tv tw tm o fo la un um isC md fw ou) H := hP
  have hD : va_D AA (wL cA ad am bo (zI b) (zI t) li fr tape rdr rrow row nx past T1 A ah1 th tp (zI fe) va we (zI n) (zI b) (zI t) li pv pw pm (zI h) fr nv nw nm nb nt nl hbk htk sz att pl so nu fa fp rdr.2.2.2.1 rdr.2.2.2.2.1 tv tw tm o fo la un um isC md fw ou) := hD
  refine lv_aload_n hx hb dL_law_2181 rfl (lv_at hl 2 rfl) ?_
  refine la_arg C hS hl hi 1 (by omega) (by decide) dL_law_2182 dL_law_2183 dL_law_2185 dL_law_2186 dL_law_2187 ?_
  refine la_arg C hS hl hi 2 (by omega) (by decide) dL_law_2188 dL_law_2189 dL_law_2191 dL_law_2192 dL_law_2193 ?_
  refine la_arg C hS hl hi 3 (by omega) (by decide) dL_law_2194 dL_law_2195 dL_law_2197 dL_law_2198 dL_law_2199 ?_
  refine xv_i (As := [.int (xs (i + 1)), .int (xs (i + 2)), .int (xs (i + 3))]) (rest := [.int a]) (ci := 6) (b := am 0) ⟨hx, hb, hml, hown, hts⟩ hl.1 (kX6_split l D cA am th tp (zI fe) va we (zI n) (zI b) (zI t) li pv pw pm (zI h) fr nv nw nm nb nt nl hbk htk sz att pl so nu fa fp rdr.2.2.2.1 rdr.2.2.2.2.1 tv tw tm o fo la un um isC md fw (xs (i + 1)) (xs (i + 2)) (xs (i + 3)) _ e6) (cwV 3 hts gL0_law_X6_split rfl rfl rfl (by decide +kernel) ⟨Nat.le_of_ble_eq_true rfl, Nat.le_of_ble_eq_true rfl⟩) rfl hK hP hD hS hA 62 rfl rfl rfl [62, 63, 64, 65, 66, 67, 68, 69, 70, 71, 72, 73, 74, 75, 76, 77, 78, 79] rfl (by decide +kernel) rfl (Nat.le_of_ble_eq_true rfl) dL_law_2200 ⟨Nat.le_of_lt hcl.1, Nat.le_trans (Nat.le_add_right _ 6) hcl.2⟩ (fun H locs hP hD hS _ => ?_)
  have hP : va_P D vwCl (wL cA ad am bo (zI b) (zI t) li fr tape rdr rrow row nx past T1 A ah1 (0 : Int32) tp (zI fe) va we (zI n) (zI b) (zI t) li pv pw pm (zI h) fr nv nw nm nb nt nl hbk htk sz att pl so nu fa fp rdr.2.2.2.1 rdr.2.2.2.2.1 tv tw tm o1 fo1 la1 un1 um1 isC md fw ou) H := hP
  have hD : va_D AA (wL cA ad am bo (zI b) (zI t) li fr tape rdr rrow row nx past T1 A ah1 (0 : Int32) tp (zI fe) va we (zI n) (zI b) (zI t) li pv pw pm (zI h) fr nv nw nm nb nt nl hbk htk sz att pl so nu fa fp rdr.2.2.2.1 rdr.2.2.2.2.1 tv tw tm o1 fo1 la1 un1 um1 isC md fw ou) := hD
  refine lv_icmp_eq (tgt := 2566) hx hb dL_law_2203 (by decide) (fun _ => ?_) (fun q => absurd rfl q)
  refine W.widen (Nat.le_add_right _ 1) (Nat.le_add_right _ 6) ?_
  exact K H locs ls ⟨n, h, b, t, fe, V, G, B, P, li, fr, tape, rdr, rrow, row, nx, past, T1, A, ah1, (0 : Int32), tp, va, we, pv, pw, pm, nv, nw, nm, nb, nt, nl, hbk, htk, sz, att, pl, so, nu, fa, fp, tv, tw, tm, o1, fo1, la1, un1, um1, isC, md, fw, ou, hP, hD, hB, hTB, h6, hBy, hb2, ht, hT1, hAs⟩ hS hl
-- together
set_option maxHeartbeats 4000000 in
set_option maxRecDepth 100000 in
theorem lc_45 {p : Program} {l : Launch} {e : Env} {s : State} {m : MethodId} {below : List Frame} {meth : Method} {c : Code} {Q : State → Prop} {D : va_G} {cA : Nat → ClassId} {adK adV ad am : Nat → Nat} {AA : Nat → Prop} {b0 L bo : Nat} {xs : Nat → Int32} (C : LCx p s m c D cA adK adV AA b0 L xs) {H : Heap} {locs : List Loc} {ls : Array Slot} {cells slots i : Nat} (hSt : LSt D cA ad am bo AA H) (hS : va_S AA s.heap H locs) (hl : lv_has ls 7 (lvL b0 ad am bo i)) (hi : i + 6 ≤ L) (hcl : cells + 1 ≤ room_1.cells ∧ slots + 6 ≤ room_1.slots) (K : LNx p l e s m below meth c Q D cA ad am bo AA b0 i cells slots) : W p l e room_1 s m #[Value.ref b0] below meth c H locs cells slots Q (F0 m 2208 ls []) := by
  obtain ⟨hx, hb, hml, hown, hts, hK, hA, hX, hbl, hbA, hE, hRR, hL, hPl⟩ := id C
  obtain ⟨n, h, b, t, fe, V, G, B, P, li, fr, tape, rdr, rrow, row, nx, past, T, A, ah, th, tp, va, we, pv, pw, pm, nv, nw, nm, nb, nt, nl, hbk, htk, sz, att, pl, so, nu, fa, fp, tv, tw, tm, o, fo, la, un, um, isC, md, fw, ou, hP, hD, hB, hTB, h6, hBy, hb2, ht, hTa, hAs⟩ := hSt
  obtain ⟨hR, hv, hp, hq⟩ := id hB
  obtain ⟨a, T1, ⟨o1, fo1, la1, un1, um1⟩, e5, hT1, e6⟩ := P_together hR hv ht hTa th o fo la un um (xs (i + 1)) (xs (i + 2)) (xs (i + 3)) (xs (i + 4)) (xs (i + 5))
  refine lv_aload_n hx hb dL_law_2208 rfl (lv_at hl 1 rfl) ?_
  refine la_arg C hS hl hi 1 (by omega) (by decide) dL_law_2209 dL_law_2210 dL_law_2212 dL_law_2213 dL_law_2214 ?_
  refine la_arg C hS hl hi 2 (by omega) (by decide) dL_law_2215 dL_law_2216 dL_law_2218 dL_law_2219 dL_law_2220 ?_
  refine la_arg C hS hl hi 3 (by omega) (by decide) dL_law_2221 dL_law_2222 dL_law_2224 dL_law_2225 dL_law_2226 ?_
  refine la_arg C hS hl hi 4 (by omega) (by decide) dL_law_2227 dL_law_2228 dL_law_2230 dL_law_2231 dL_law_2232 ?_
  refine la_arg C hS hl hi 5 (by omega) (by decide) dL_law_2233 dL_law_2234 dL_law_2236 dL_law_2237 dL_law_2238 ?_
  refine xv_i (As := [.int (xs (i + 1)), .int (xs (i + 2)), .int (xs (i + 3)), .int (xs (i + 4)), .int (xs (i + 5))]) (rest := []) (ci := 5) (b := ad 0) ⟨hx, hb, hml, hown, hts⟩ hl.1 (kX5_together l D cA ad (zI b) (zI t) li fr row T (xs (i + 1)) (xs (i + 2)) (xs (i + 3)) (xs (i + 4)) (xs (i + 5)) _ e5) (cwV 5 hts gL0_law_X5_together rfl rfl rfl (by decide +kernel) ⟨Nat.le_of_ble_eq_true rfl, Nat.le_of_ble_eq_true rfl⟩) rfl hK hP hD hS hA 0 rfl rfl rfl [0, 7, 8, 9, 51, 52, 53, 54, 55] rfl (by decide +kernel) rfl (Nat.le_of_ble_eq_true rfl) dL_law_2239 ⟨Nat.le_of_lt hcl.1, Nat.le_trans (Nat.le_add_right _ 6) hcl.2⟩ (fun H locs hP hD hS _ => ?_)
  have hP : va_P D vwCl (wL cA ad am bo (zI b) (zI t) li fr tape rdr rrow row nx past T1 A ah th tp (zI fe) va we (zI n) (zI b) (zI t) li pv pw pm (zI h) fr nv nw nm nb nt nl hbk htk sz att pl so nu fa fp rdr.2.2.2.1 rdr.2.2.2.2.1 tv tw tm o fo la un um isC md fw ou) H := hP
  have hD : va_D AA (wL cA ad am bo (zI b) (zI t) li fr tape rdr rrow row nx past T1 A ah th tp (zI fe) va we (zI n) (zI b) (zI t) li pv pw pm (zI h) fr nv nw nm nb nt nl hbk htk sz att pl so nu fa fp rdr.2.2.2.1 rdr.2.2.2.2.1 tv tw tm o fo la un um isC md fw ou) := hD
  refine lv_aload_n hx hb dL_law_2242 rfl (lv_at hl 2 rfl) ?_
  refine la_arg C hS hl hi 1 (by omega) (by decide) dL_law_2243 dL_law_2244 dL_law_2246 dL_law_2247 dL_law_2248 ?_
  refine la_arg C hS hl hi 2 (by omega) (by decide) dL_law_2249 dL_law_2250 dL_law_2252 dL_law_2253 dL_law_2254 ?_
  refine la_arg C hS hl hi 3 (by omega) (by decide) dL_law_2255 dL_law_2256 dL_law_2258 dL_law_2259 dL_law_2260 ?_
  refine la_arg C hS hl hi 4 (by omega) (by decide) dL_law_2261 dL_law_2262 dL_law_2264 dL_law_2265 dL_law_2266 ?_
  refine la_arg C hS hl hi 5 (by omega) (by decide) dL_law_2267 dL_law_2268 dL_law_2270 dL_law_2271 dL_law_2272 ?_
  refine xv_i (As := [.int (xs (i + 1)), .int (xs (i + 2)), .int (xs (i + 3)), .int (xs (i + 4)), .int (xs (i + 5))]) (rest := [.int a]) (ci := 6) (b := am 0) ⟨hx, hb, hml, hown, hts⟩ hl.1 (kX6_together l D cA am th tp (zI fe) va we (zI n) (zI b) (zI t) li pv pw pm (zI h) fr nv nw nm nb nt nl hbk htk sz att pl so nu fa fp rdr.2.2.2.1 rdr.2.2.2.2.1 tv tw tm o fo la un um isC md fw (xs (i + 1)) (xs (i + 2)) (xs (i + 3)) (xs (i + 4)) (xs (i + 5)) _ e6) (cwV 5 hts gL0_law_X6_together rfl rfl rfl (by decide +kernel) ⟨Nat.le_of_ble_eq_true rfl, Nat.le_of_ble_eq_true rfl⟩) rfl hK hP hD hS hA 62 rfl rfl rfl [62, 63, 64, 65, 66, 67, 68, 69, 70, 71, 72, 73, 74, 75, 76, 77, 78, 79] rfl (by decide +kernel) rfl (Nat.le_of_ble_eq_true rfl) dL_law_2273 ⟨Nat.le_of_lt hcl.1, Nat.le_trans (Nat.le_add_right _ 6) hcl.2⟩ (fun H locs hP hD hS _ => ?_)
  have hP : va_P D vwCl (wL cA ad am bo (zI b) (zI t) li fr tape rdr rrow row nx past T1 A ah (0 : Int32) tp (zI fe) va we (zI n) (zI b) (zI t) li pv pw pm (zI h) fr nv nw nm nb nt nl hbk htk sz att pl so nu fa fp rdr.2.2.2.1 rdr.2.2.2.2.1 tv tw tm o1 fo1 la1 un1 um1 isC md fw ou) H := hP
  have hD : va_D AA (wL cA ad am bo (zI b) (zI t) li fr tape rdr rrow row nx past T1 A ah (0 : Int32) tp (zI fe) va we (zI n) (zI b) (zI t) li pv pw pm (zI h) fr nv nw nm nb nt nl hbk htk sz att pl so nu fa fp rdr.2.2.2.1 rdr.2.2.2.2.1 tv tw tm o1 fo1 la1 un1 um1 isC md fw ou) := hD
  refine lv_icmp_eq (tgt := 2566) hx hb dL_law_2276 (by decide) (fun _ => ?_) (fun q => absurd rfl q)
  refine W.widen (Nat.le_add_right _ 1) (Nat.le_add_right _ 6) ?_
  exact K H locs ls ⟨n, h, b, t, fe, V, G, B, P, li, fr, tape, rdr, rrow, row, nx, past, T1, A, ah, (0 : Int32), tp, va, we, pv, pw, pm, nv, nw, nm, nb, nt, nl, hbk, htk, sz, att, pl, so, nu, fa, fp, tv, tw, tm, o1, fo1, la1, un1, um1, isC, md, fw, ou, hP, hD, hB, hTB, h6, hBy, hb2, ht, hT1, hAs⟩ hS hl
-- agree
set_option maxHeartbeats 4000000 in
set_option maxRecDepth 100000 in
theorem lc_46 {p : Program} {l : Launch} {e : Env} {s : State} {m : MethodId} {below : List Frame} {meth : Method} {c : Code} {Q : State → Prop} {D : va_G} {cA : Nat → ClassId} {adK adV ad am : Nat → Nat} {AA : Nat → Prop} {b0 L bo : Nat} {xs : Nat → Int32} (C : LCx p s m c D cA adK adV AA b0 L xs) {H : Heap} {locs : List Loc} {ls : Array Slot} {cells slots i : Nat} (hSt : LSt D cA ad am bo AA H) (hS : va_S AA s.heap H locs) (hl : lv_has ls 7 (lvL b0 ad am bo i)) (hi : i + 6 ≤ L) (hcl : cells + 1 ≤ room_1.cells ∧ slots + 6 ≤ room_1.slots) (K : LNx p l e s m below meth c Q D cA ad am bo AA b0 i cells slots) : W p l e room_1 s m #[Value.ref b0] below meth c H locs cells slots Q (F0 m 2281 ls []) := by
  obtain ⟨hx, hb, hml, hown, hts, hK, hA, hX, hbl, hbA, hE, hRR, hL, hPl⟩ := id C
  obtain ⟨n, h, b, t, fe, V, G, B, P, li, fr, tape, rdr, rrow, row, nx, past, T, A, ah, th, tp, va, we, pv, pw, pm, nv, nw, nm, nb, nt, nl, hbk, htk, sz, att, pl, so, nu, fa, fp, tv, tw, tm, o, fo, la, un, um, isC, md, fw, ou, hP, hD, hB, hTB, h6, hBy, hb2, ht, hTa, hAs⟩ := hSt
  obtain ⟨hR, hv, hp, hq⟩ := id hB
  obtain ⟨a, T1, ⟨o1, fo1, la1, un1, um1⟩, e5, hT1, e6⟩ := P_agree hR hv ht hTa th o fo la un um (xs (i + 1)) (xs (i + 2)) (xs (i + 3))
  refine lv_aload_n hx hb dL_law_2281 rfl (lv_at hl 1 rfl) ?_
  refine la_arg C hS hl hi 1 (by omega) (by decide) dL_law_2282 dL_law_2283 dL_law_2285 dL_law_2286 dL_law_2287 ?_
  refine la_arg C hS hl hi 2 (by omega) (by decide) dL_law_2288 dL_law_2289 dL_law_2291 dL_law_2292 dL_law_2293 ?_
  refine la_arg C hS hl hi 3 (by omega) (by decide) dL_law_2294 dL_law_2295 dL_law_2297 dL_law_2298 dL_law_2299 ?_
  refine xv_i (As := [.int (xs (i + 1)), .int (xs (i + 2)), .int (xs (i + 3))]) (rest := []) (ci := 5) (b := ad 0) ⟨hx, hb, hml, hown, hts⟩ hl.1 (kX5_agree l D cA ad (zI b) (zI t) li fr row T (xs (i + 1)) (xs (i + 2)) (xs (i + 3)) _ e5) (cwV 3 hts gL0_law_X5_agree rfl rfl rfl (by decide +kernel) ⟨Nat.le_of_ble_eq_true rfl, Nat.le_of_ble_eq_true rfl⟩) rfl hK hP hD hS hA 0 rfl rfl rfl [0, 7, 8, 9, 51, 52, 53, 54, 55] rfl (by decide +kernel) rfl (Nat.le_of_ble_eq_true rfl) dL_law_2300 ⟨Nat.le_of_lt hcl.1, Nat.le_trans (Nat.le_add_right _ 6) hcl.2⟩ (fun H locs hP hD hS _ => ?_)
  have hP : va_P D vwCl (wL cA ad am bo (zI b) (zI t) li fr tape rdr rrow row nx past T1 A ah th tp (zI fe) va we (zI n) (zI b) (zI t) li pv pw pm (zI h) fr nv nw nm nb nt nl hbk htk sz att pl so nu fa fp rdr.2.2.2.1 rdr.2.2.2.2.1 tv tw tm o fo la un um isC md fw ou) H := hP
  have hD : va_D AA (wL cA ad am bo (zI b) (zI t) li fr tape rdr rrow row nx past T1 A ah th tp (zI fe) va we (zI n) (zI b) (zI t) li pv pw pm (zI h) fr nv nw nm nb nt nl hbk htk sz att pl so nu fa fp rdr.2.2.2.1 rdr.2.2.2.2.1 tv tw tm o fo la un um isC md fw ou) := hD
  refine lv_aload_n hx hb dL_law_2303 rfl (lv_at hl 2 rfl) ?_
  refine la_arg C hS hl hi 1 (by omega) (by decide) dL_law_2304 dL_law_2305 dL_law_2307 dL_law_2308 dL_law_2309 ?_
  refine la_arg C hS hl hi 2 (by omega) (by decide) dL_law_2310 dL_law_2311 dL_law_2313 dL_law_2314 dL_law_2315 ?_
  refine la_arg C hS hl hi 3 (by omega) (by decide) dL_law_2316 dL_law_2317 dL_law_2319 dL_law_2320 dL_law_2321 ?_
  refine xv_i (As := [.int (xs (i + 1)), .int (xs (i + 2)), .int (xs (i + 3))]) (rest := [.int a]) (ci := 6) (b := am 0) ⟨hx, hb, hml, hown, hts⟩ hl.1 (kX6_agree l D cA am th tp (zI fe) va we (zI n) (zI b) (zI t) li pv pw pm (zI h) fr nv nw nm nb nt nl hbk htk sz att pl so nu fa fp rdr.2.2.2.1 rdr.2.2.2.2.1 tv tw tm o fo la un um isC md fw (xs (i + 1)) (xs (i + 2)) (xs (i + 3)) _ e6) (cwV 3 hts gL0_law_X6_agree rfl rfl rfl (by decide +kernel) ⟨Nat.le_of_ble_eq_true rfl, Nat.le_of_ble_eq_true rfl⟩) rfl hK hP hD hS hA 62 rfl rfl rfl [62, 63, 64, 65, 66, 67, 68, 69, 70, 71, 72, 73, 74, 75, 76, 77, 78, 79] rfl (by decide +kernel) rfl (Nat.le_of_ble_eq_true rfl) dL_law_2322 ⟨Nat.le_of_lt hcl.1, Nat.le_trans (Nat.le_add_right _ 6) hcl.2⟩ (fun H locs hP hD hS _ => ?_)
  have hP : va_P D vwCl (wL cA ad am bo (zI b) (zI t) li fr tape rdr rrow row nx past T1 A ah (0 : Int32) tp (zI fe) va we (zI n) (zI b) (zI t) li pv pw pm (zI h) fr nv nw nm nb nt nl hbk htk sz att pl so nu fa fp rdr.2.2.2.1 rdr.2.2.2.2.1 tv tw tm o1 fo1 la1 un1 um1 isC md fw ou) H := hP
  have hD : va_D AA (wL cA ad am bo (zI b) (zI t) li fr tape rdr rrow row nx past T1 A ah (0 : Int32) tp (zI fe) va we (zI n) (zI b) (zI t) li pv pw pm (zI h) fr nv nw nm nb nt nl hbk htk sz att pl so nu fa fp rdr.2.2.2.1 rdr.2.2.2.2.1 tv tw tm o1 fo1 la1 un1 um1 isC md fw ou) := hD
  refine lv_icmp_eq (tgt := 2566) hx hb dL_law_2325 (by decide) (fun _ => ?_) (fun q => absurd rfl q)
  refine W.widen (Nat.le_add_right _ 1) (Nat.le_add_right _ 6) ?_
  exact K H locs ls ⟨n, h, b, t, fe, V, G, B, P, li, fr, tape, rdr, rrow, row, nx, past, T1, A, ah, (0 : Int32), tp, va, we, pv, pw, pm, nv, nw, nm, nb, nt, nl, hbk, htk, sz, att, pl, so, nu, fa, fp, tv, tw, tm, o1, fo1, la1, un1, um1, isC, md, fw, ou, hP, hD, hB, hTB, h6, hBy, hb2, ht, hT1, hAs⟩ hS hl
-- peeled
set_option maxHeartbeats 4000000 in
set_option maxRecDepth 100000 in
theorem lc_47 {p : Program} {l : Launch} {e : Env} {s : State} {m : MethodId} {below : List Frame} {meth : Method} {c : Code} {Q : State → Prop} {D : va_G} {cA : Nat → ClassId} {adK adV ad am : Nat → Nat} {AA : Nat → Prop} {b0 L bo : Nat} {xs : Nat → Int32} (C : LCx p s m c D cA adK adV AA b0 L xs) {H : Heap} {locs : List Loc} {ls : Array Slot} {cells slots i : Nat} (hSt : LSt D cA ad am bo AA H) (hS : va_S AA s.heap H locs) (hl : lv_has ls 7 (lvL b0 ad am bo i)) (hi : i + 6 ≤ L) (hcl : cells + 1 ≤ room_1.cells ∧ slots + 6 ≤ room_1.slots) (K : LNx p l e s m below meth c Q D cA ad am bo AA b0 i cells slots) : W p l e room_1 s m #[Value.ref b0] below meth c H locs cells slots Q (F0 m 2330 ls []) := by
  obtain ⟨hx, hb, hml, hown, hts, hK, hA, hX, hbl, hbA, hE, hRR, hL, hPl⟩ := id C
  obtain ⟨n, h, b, t, fe, V, G, B, P, li, fr, tape, rdr, rrow, row, nx, past, T, A, ah, th, tp, va, we, pv, pw, pm, nv, nw, nm, nb, nt, nl, hbk, htk, sz, att, pl, so, nu, fa, fp, tv, tw, tm, o, fo, la, un, um, isC, md, fw, ou, hP, hD, hB, hTB, h6, hBy, hb2, ht, hTa, hAs⟩ := hSt
  obtain ⟨hR, hv, hp, hq⟩ := id hB
  obtain ⟨a, T1, ⟨o1, fo1, la1, un1, um1⟩, e5, hT1, e6⟩ := P_peeled hR hv ht hTa th o fo la un um (xs (i + 1)) (xs (i + 2)) (xs (i + 3))
  refine lv_aload_n hx hb dL_law_2330 rfl (lv_at hl 1 rfl) ?_
  refine la_arg C hS hl hi 1 (by omega) (by decide) dL_law_2331 dL_law_2332 dL_law_2334 dL_law_2335 dL_law_2336 ?_
  refine la_arg C hS hl hi 2 (by omega) (by decide) dL_law_2337 dL_law_2338 dL_law_2340 dL_law_2341 dL_law_2342 ?_
  refine la_arg C hS hl hi 3 (by omega) (by decide) dL_law_2343 dL_law_2344 dL_law_2346 dL_law_2347 dL_law_2348 ?_
  refine xv_i (As := [.int (xs (i + 1)), .int (xs (i + 2)), .int (xs (i + 3))]) (rest := []) (ci := 5) (b := ad 0) ⟨hx, hb, hml, hown, hts⟩ hl.1 (kX5_peeled l D cA ad (zI b) (zI t) li fr row T (xs (i + 1)) (xs (i + 2)) (xs (i + 3)) _ e5) (cwV 3 hts gL0_law_X5_peeled rfl rfl rfl (by decide +kernel) ⟨Nat.le_of_ble_eq_true rfl, Nat.le_of_ble_eq_true rfl⟩) rfl hK hP hD hS hA 0 rfl rfl rfl [0, 7, 8, 9, 51, 52, 53, 54, 55] rfl (by decide +kernel) rfl (Nat.le_of_ble_eq_true rfl) dL_law_2349 ⟨Nat.le_of_lt hcl.1, Nat.le_trans (Nat.le_add_right _ 6) hcl.2⟩ (fun H locs hP hD hS _ => ?_)
  have hP : va_P D vwCl (wL cA ad am bo (zI b) (zI t) li fr tape rdr rrow row nx past T1 A ah th tp (zI fe) va we (zI n) (zI b) (zI t) li pv pw pm (zI h) fr nv nw nm nb nt nl hbk htk sz att pl so nu fa fp rdr.2.2.2.1 rdr.2.2.2.2.1 tv tw tm o fo la un um isC md fw ou) H := hP
  have hD : va_D AA (wL cA ad am bo (zI b) (zI t) li fr tape rdr rrow row nx past T1 A ah th tp (zI fe) va we (zI n) (zI b) (zI t) li pv pw pm (zI h) fr nv nw nm nb nt nl hbk htk sz att pl so nu fa fp rdr.2.2.2.1 rdr.2.2.2.2.1 tv tw tm o fo la un um isC md fw ou) := hD
  refine lv_aload_n hx hb dL_law_2352 rfl (lv_at hl 2 rfl) ?_
  refine la_arg C hS hl hi 1 (by omega) (by decide) dL_law_2353 dL_law_2354 dL_law_2356 dL_law_2357 dL_law_2358 ?_
  refine la_arg C hS hl hi 2 (by omega) (by decide) dL_law_2359 dL_law_2360 dL_law_2362 dL_law_2363 dL_law_2364 ?_
  refine la_arg C hS hl hi 3 (by omega) (by decide) dL_law_2365 dL_law_2366 dL_law_2368 dL_law_2369 dL_law_2370 ?_
  refine xv_i (As := [.int (xs (i + 1)), .int (xs (i + 2)), .int (xs (i + 3))]) (rest := [.int a]) (ci := 6) (b := am 0) ⟨hx, hb, hml, hown, hts⟩ hl.1 (kX6_peeled l D cA am th tp (zI fe) va we (zI n) (zI b) (zI t) li pv pw pm (zI h) fr nv nw nm nb nt nl hbk htk sz att pl so nu fa fp rdr.2.2.2.1 rdr.2.2.2.2.1 tv tw tm o fo la un um isC md fw (xs (i + 1)) (xs (i + 2)) (xs (i + 3)) _ e6) (cwV 3 hts gL0_law_X6_peeled rfl rfl rfl (by decide +kernel) ⟨Nat.le_of_ble_eq_true rfl, Nat.le_of_ble_eq_true rfl⟩) rfl hK hP hD hS hA 62 rfl rfl rfl [62, 63, 64, 65, 66, 67, 68, 69, 70, 71, 72, 73, 74, 75, 76, 77, 78, 79] rfl (by decide +kernel) rfl (Nat.le_of_ble_eq_true rfl) dL_law_2371 ⟨Nat.le_of_lt hcl.1, Nat.le_trans (Nat.le_add_right _ 6) hcl.2⟩ (fun H locs hP hD hS _ => ?_)
  have hP : va_P D vwCl (wL cA ad am bo (zI b) (zI t) li fr tape rdr rrow row nx past T1 A ah (0 : Int32) tp (zI fe) va we (zI n) (zI b) (zI t) li pv pw pm (zI h) fr nv nw nm nb nt nl hbk htk sz att pl so nu fa fp rdr.2.2.2.1 rdr.2.2.2.2.1 tv tw tm o1 fo1 la1 un1 um1 isC md fw ou) H := hP
  have hD : va_D AA (wL cA ad am bo (zI b) (zI t) li fr tape rdr rrow row nx past T1 A ah (0 : Int32) tp (zI fe) va we (zI n) (zI b) (zI t) li pv pw pm (zI h) fr nv nw nm nb nt nl hbk htk sz att pl so nu fa fp rdr.2.2.2.1 rdr.2.2.2.2.1 tv tw tm o1 fo1 la1 un1 um1 isC md fw ou) := hD
  refine lv_icmp_eq (tgt := 2566) hx hb dL_law_2374 (by decide) (fun _ => ?_) (fun q => absurd rfl q)
  refine W.widen (Nat.le_add_right _ 1) (Nat.le_add_right _ 6) ?_
  exact K H locs ls ⟨n, h, b, t, fe, V, G, B, P, li, fr, tape, rdr, rrow, row, nx, past, T1, A, ah, (0 : Int32), tp, va, we, pv, pw, pm, nv, nw, nm, nb, nt, nl, hbk, htk, sz, att, pl, so, nu, fa, fp, tv, tw, tm, o1, fo1, la1, un1, um1, isC, md, fw, ou, hP, hD, hB, hTB, h6, hBy, hb2, ht, hT1, hAs⟩ hS hl
-- reign
set_option maxHeartbeats 4000000 in
set_option maxRecDepth 100000 in
theorem lc_48 {p : Program} {l : Launch} {e : Env} {s : State} {m : MethodId} {below : List Frame} {meth : Method} {c : Code} {Q : State → Prop} {D : va_G} {cA : Nat → ClassId} {adK adV ad am : Nat → Nat} {AA : Nat → Prop} {b0 L bo : Nat} {xs : Nat → Int32} (C : LCx p s m c D cA adK adV AA b0 L xs) {H : Heap} {locs : List Loc} {ls : Array Slot} {cells slots i : Nat} (hSt : LSt D cA ad am bo AA H) (hS : va_S AA s.heap H locs) (hl : lv_has ls 7 (lvL b0 ad am bo i)) (hi : i + 6 ≤ L) (hcl : cells + 1 ≤ room_1.cells ∧ slots + 6 ≤ room_1.slots) (K : LNx p l e s m below meth c Q D cA ad am bo AA b0 i cells slots) : W p l e room_1 s m #[Value.ref b0] below meth c H locs cells slots Q (F0 m 2379 ls []) := by
  obtain ⟨hx, hb, hml, hown, hts, hK, hA, hX, hbl, hbA, hE, hRR, hL, hPl⟩ := id C
  obtain ⟨n, h, b, t, fe, V, G, B, P, li, fr, tape, rdr, rrow, row, nx, past, T, A, ah, th, tp, va, we, pv, pw, pm, nv, nw, nm, nb, nt, nl, hbk, htk, sz, att, pl, so, nu, fa, fp, tv, tw, tm, o, fo, la, un, um, isC, md, fw, ou, hP, hD, hB, hTB, h6, hBy, hb2, ht, hTa, hAs⟩ := hSt
  obtain ⟨hR, hv, hp, hq⟩ := id hB
  obtain ⟨a, e5, e6⟩ := P_reign hR hv th (xs (i + 1)) (xs (i + 2))
  refine lv_aload_n hx hb dL_law_2379 rfl (lv_at hl 1 rfl) ?_
  refine la_arg C hS hl hi 1 (by omega) (by decide) dL_law_2380 dL_law_2381 dL_law_2383 dL_law_2384 dL_law_2385 ?_
  refine la_arg C hS hl hi 2 (by omega) (by decide) dL_law_2386 dL_law_2387 dL_law_2389 dL_law_2390 dL_law_2391 ?_
  refine xv_i (As := [.int (xs (i + 1)), .int (xs (i + 2))]) (rest := []) (ci := 5) (b := ad 0) ⟨hx, hb, hml, hown, hts⟩ hl.1 (kX5_reign l D cA ad (zI b) (zI t) li fr row (xs (i + 1)) (xs (i + 2)) _ e5) (cwV 2 hts gL0_law_X5_reign rfl rfl rfl (by decide +kernel) ⟨Nat.le_of_ble_eq_true rfl, Nat.le_of_ble_eq_true rfl⟩) rfl hK hP hD hS hA 0 rfl rfl rfl [0, 7, 8, 9] rfl (by decide +kernel) rfl (Nat.le_of_ble_eq_true rfl) dL_law_2392 ⟨Nat.le_of_lt hcl.1, Nat.le_trans (Nat.le_add_right _ 6) hcl.2⟩ (fun H locs hP hD hS _ => ?_)
  have hP : va_P D vwCl (wL cA ad am bo (zI b) (zI t) li fr tape rdr rrow row nx past T A ah th tp (zI fe) va we (zI n) (zI b) (zI t) li pv pw pm (zI h) fr nv nw nm nb nt nl hbk htk sz att pl so nu fa fp rdr.2.2.2.1 rdr.2.2.2.2.1 tv tw tm o fo la un um isC md fw ou) H := hP
  have hD : va_D AA (wL cA ad am bo (zI b) (zI t) li fr tape rdr rrow row nx past T A ah th tp (zI fe) va we (zI n) (zI b) (zI t) li pv pw pm (zI h) fr nv nw nm nb nt nl hbk htk sz att pl so nu fa fp rdr.2.2.2.1 rdr.2.2.2.2.1 tv tw tm o fo la un um isC md fw ou) := hD
  refine lv_aload_n hx hb dL_law_2395 rfl (lv_at hl 2 rfl) ?_
  refine la_arg C hS hl hi 1 (by omega) (by decide) dL_law_2396 dL_law_2397 dL_law_2399 dL_law_2400 dL_law_2401 ?_
  refine la_arg C hS hl hi 2 (by omega) (by decide) dL_law_2402 dL_law_2403 dL_law_2405 dL_law_2406 dL_law_2407 ?_
  refine xv_i (As := [.int (xs (i + 1)), .int (xs (i + 2))]) (rest := [.int a]) (ci := 6) (b := am 0) ⟨hx, hb, hml, hown, hts⟩ hl.1 (kX6_reign l D cA am th tp (zI fe) va we (zI n) (zI b) (zI t) li pv pw pm (zI h) fr nv nw nm nb nt nl hbk htk sz att pl so nu fa fp rdr.2.2.2.1 rdr.2.2.2.2.1 tv tw tm o fo la un um isC md fw (xs (i + 1)) (xs (i + 2)) _ e6) (cwV 2 hts gL0_law_X6_reign rfl rfl rfl (by decide +kernel) ⟨Nat.le_of_ble_eq_true rfl, Nat.le_of_ble_eq_true rfl⟩) rfl hK hP hD hS hA 62 rfl rfl rfl [62, 63, 64, 65, 66, 67, 68, 69, 70, 71, 72, 73, 74, 75, 76, 77, 78, 79] rfl (by decide +kernel) rfl (Nat.le_of_ble_eq_true rfl) dL_law_2408 ⟨Nat.le_of_lt hcl.1, Nat.le_trans (Nat.le_add_right _ 6) hcl.2⟩ (fun H locs hP hD hS _ => ?_)
  have hP : va_P D vwCl (wL cA ad am bo (zI b) (zI t) li fr tape rdr rrow row nx past T A ah (0 : Int32) tp (zI fe) va we (zI n) (zI b) (zI t) li pv pw pm (zI h) fr nv nw nm nb nt nl hbk htk sz att pl so nu fa fp rdr.2.2.2.1 rdr.2.2.2.2.1 tv tw tm o fo la un um isC md fw ou) H := hP
  have hD : va_D AA (wL cA ad am bo (zI b) (zI t) li fr tape rdr rrow row nx past T A ah (0 : Int32) tp (zI fe) va we (zI n) (zI b) (zI t) li pv pw pm (zI h) fr nv nw nm nb nt nl hbk htk sz att pl so nu fa fp rdr.2.2.2.1 rdr.2.2.2.2.1 tv tw tm o fo la un um isC md fw ou) := hD
  refine lv_icmp_eq (tgt := 2566) hx hb dL_law_2411 (by decide) (fun _ => ?_) (fun q => absurd rfl q)
  refine W.widen (Nat.le_add_right _ 1) (Nat.le_add_right _ 6) ?_
  exact K H locs ls ⟨n, h, b, t, fe, V, G, B, P, li, fr, tape, rdr, rrow, row, nx, past, T, A, ah, (0 : Int32), tp, va, we, pv, pw, pm, nv, nw, nm, nb, nt, nl, hbk, htk, sz, att, pl, so, nu, fa, fp, tv, tw, tm, o, fo, la, un, um, isC, md, fw, ou, hP, hD, hB, hTB, h6, hBy, hb2, ht, hTa, hAs⟩ hS hl
