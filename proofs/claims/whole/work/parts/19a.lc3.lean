/-! place, in the law -/
def wsL_law1 : List Cond := wsL_law0 ++ (atIO.filter goodWord ++ atNS.filter goodWord)
set_option maxRecDepth 20000 in
theorem ggL1_law_L_place : GoodIn wsL_law1 wsL_pl := goodIn_ca (goodIn_ca (goodIn_r _ [367, 368, 369, 370, 371, 372, 2, 373, 374, 375, 376, 377, 24, 378, 379, 37, 380, 254, 255, 23, 256, 69, 381, 382, 383, 384, 67, 385, 386, 387, 388, 389, 390, 391, 392, 393, 394, 395, 396, 1099, 1100, 1101, 1102, 1103, 1104, 1105, 1106, 1107, 1108, 1109, 1110, 1168, 1169, 1170] (by decide +kernel) (by decide +kernel)) (goodIn_sub (fun _ h => List.mem_append_right _ (List.mem_append_left _ h)) (by decide +kernel))) (goodIn_sub (fun _ h => List.mem_append_right _ (List.mem_append_right _ h)) (by decide +kernel))
set_option maxRecDepth 20000 in
theorem gL1_law_L_place : GoodIn wsL_law1 (va_wsS RL 35 yL_place wsL_pl) := goodIn_app (goodIn_of _ (by decide +kernel)) ggL1_law_L_place
theorem lg_self (x : Int64) : lg_cmp x x = 0 := by unfold lg_cmp; simp
set_option maxHeartbeats 4000000 in
set_option maxRecDepth 100000 in
theorem lc_3 {p : Program} {l : Launch} {e : Env} {s : State} {m : MethodId} {below : List Frame} {meth : Method} {c : Code} {Q : State → Prop} {D : va_G} {cA : Nat → ClassId} {adK adV ad am : Nat → Nat} {AA : Nat → Prop} {b0 L bo : Nat} {xs : Nat → Int32} (hfl : l.flags = flags0) (C : LCx p s m c D cA adK adV AA b0 L xs) {H : Heap} {locs : List Loc} {ls : Array Slot} {cells slots i : Nat} (hSt : LSt D cA ad am bo AA H) (hS : va_S AA s.heap H locs) (hl : lv_has ls 7 (lvL b0 ad am bo i)) (hi : i + 6 ≤ L) (hcl : cells + 1 ≤ room_1.cells ∧ slots + 6 ≤ room_1.slots) (K : LNx p l e s m below meth c Q D cA ad am bo AA b0 i cells slots) : W p l e room_1 s m #[Value.ref b0] below meth c H locs cells slots Q (F0 m 399 ls []) := by
  have hst : l.stackTraces = false := by unfold Launch.stackTraces; rw [hfl]; decide
  obtain ⟨hx, hb, hml, hown, hts, hK, hA, hX, hbl, hbA, hE, hRR, hL, hPl⟩ := id C
  obtain ⟨n, h, b, t, fe, V, G, B, P, li, fr, tape, rdr, rrow, row, nx, past, T, A, ah, th, tp, va, we, pv, pw, pm, nv, nw, nm, nb, nt, nl, hbk, htk, sz, att, pl, so, nu, fa, fp, tv, tw, tm, o, fo, la, un, um, isC, md, fw, ou, hP, hD, hB, hTB, h6, hBy, hb2, ht, hTa, hAs⟩ := hSt
  obtain ⟨hR, hv, hp, hq⟩ := id hB
  obtain ⟨k, a, a1, e5, e6, hka, hk3⟩ := P_place hR hv hb2 th (xs (i + 1)) (xs (i + 2))
  have hts1 : ∀ w ∈ wsL_law1, w.before #[Value.ref b0] s = true := fun w hw => (List.mem_append.mp hw).elim (hts w) (hPl.1 w)
  refine lv_aload_n hx hb dL_law_399 rfl (lv_at hl 1 rfl) ?_
  refine la_arg C hS hl hi 1 (by omega) (by decide) dL_law_400 dL_law_401 dL_law_403 dL_law_404 dL_law_405 ?_
  refine la_arg C hS hl hi 2 (by omega) (by decide) dL_law_406 dL_law_407 dL_law_409 dL_law_410 dL_law_411 ?_
  refine lv_aload_n hx hb dL_law_412 rfl (lv_at hl 3 rfl) ?_
  have hC : [0, 7, 8, 9, 80].map (fun i => (wL cA ad am bo (zI b) (zI t) li fr tape rdr rrow row nx past T A ah th tp (zI fe) va we (zI n) (zI b) (zI t) li pv pw pm (zI h) fr nv nw nm nb nt nl hbk htk sz att pl so nu fa fp rdr.2.2.2.1 rdr.2.2.2.2.1 tv tw tm o fo la un um isC md fw ou)[i]?) = (wD_row cA ad (zI b) (zI t) li fr row ++ [(bo, .inl (cA 4, 1, .inr (.inl ou)))] : va_W).map some := rfl
  have hPc := w_cut hC hP
  have hDc := w_cutD hC (by decide +kernel) hD
  have hFc := va_free (wc := (wD_row cA ad (zI b) (zI t) li fr row ++ [(bo, .inl (cA 4, 1, .inr (.inl ou)))] : va_W)) hD hS hA [0, 7, 8, 9, 80] hC
  refine vx_calli (vx_runSX (hh := [(0, 10, 13, 13), (0, 10, 17, 15)]) (As := [.ref (ad 0), .int (xs (i + 1)), .int (xs (i + 2)), .ref bo]) (rest := []) ⟨hx, hb, hml, hown, hts⟩ (kL_place l hst D cA adK ad bo (zI b) (zI t) li fr row ou (xs (i + 1)) (xs (i + 2)) k a e5 H.size) (vx_cwSW 4 hts1 gL1_law_L_place rfl rfl rfl (by decide +kernel) ⟨Nat.le_of_ble_eq_true rfl, Nat.le_of_ble_eq_true rfl⟩) ⟨w_blindP, fun U hU hW => ⟨rfl, ⟨by rw [hU], by rw [hU]; exact hPc, va_K.moved hW.alike hK, hDc.weaken (fun _ _ _ _ => trivial)⟩, ⟨hRR.2.2.2.2.2.2.2.2.1.warm hW, hRR.2.2.2.2.2.2.2.2.2.1.warm hW⟩, by rw [hU]; exact ((hPl.2.1.kept hS.2.1).narrow hFc).moved hW.alike, hPl.2.2.warm hW⟩⟩ rfl rfl hl.1 rfl (lv_room (Nat.le_of_ble_eq_true rfl)) dL_law_413 hcl) hS (fun q _ h => hFc q h) hFc (fun q _ h => hFc q h) (fun E ce q9 u t H1 locs1 ht hal hno => hno.elim) (fun r u t9 H locs ht9 hvm hw hB9 hz1 hk1 hS => ?_)
  subst hw
  rw [ht9] at hB9
  obtain ⟨hP, hD⟩ := w_back (Wc' := ((wD_row cA ad (zI b) (zI t) li fr row ++ [(bo, .inl (cA 4, 1, .inr (.inl (if r = 0 then vp_updL ou 0 a.toInt64 else ou))))] : va_W))) hP hD hC rfl hk1 hB9
  have hP : va_P D vwCl (wL cA ad am bo (zI b) (zI t) li fr tape rdr rrow row nx past T A ah th tp (zI fe) va we (zI n) (zI b) (zI t) li pv pw pm (zI h) fr nv nw nm nb nt nl hbk htk sz att pl so nu fa fp rdr.2.2.2.1 rdr.2.2.2.2.1 tv tw tm o fo la un um isC md fw (if r = 0 then vp_updL ou 0 a.toInt64 else ou)) H := hP
  have hD : va_D AA (wL cA ad am bo (zI b) (zI t) li fr tape rdr rrow row nx past T A ah th tp (zI fe) va we (zI n) (zI b) (zI t) li pv pw pm (zI h) fr nv nw nm nb nt nl hbk htk sz att pl so nu fa fp rdr.2.2.2.1 rdr.2.2.2.2.1 tv tw tm o fo la un um isC md fw (if r = 0 then vp_updL ou 0 a.toInt64 else ou)) := hD
  refine lv_istore (lv' := [(5, .int r), (0, .ref b0), (1, .ref (ad 0)), (2, .ref (am 0)), (3, .ref bo), (4, .int (nI i))]) hx hb dL_law_416 hl (by decide) rfl (fun ls hl => ?_)
  refine lv_aload_n hx hb dL_law_418 rfl (lv_at hl 3 rfl) ?_
  refine la_arg C hS (lv_sub hl [1, 2, 3, 4, 5] rfl) hi 1 (by omega) (by decide) dL_law_419 dL_law_420 dL_law_422 dL_law_423 dL_law_424 ?_
  refine la_arg C hS (lv_sub hl [1, 2, 3, 4, 5] rfl) hi 2 (by omega) (by decide) dL_law_425 dL_law_426 dL_law_428 dL_law_429 dL_law_430 ?_
  refine xv_i (As := [.int (xs (i + 1)), .int (xs (i + 2))]) (rest := []) (ci := 6) (b := am 0) ⟨hx, hb, hml, hown, hts⟩ hl.1 (kX6_place l D cA am th tp (zI fe) va we (zI n) (zI b) (zI t) li pv pw pm (zI h) fr nv nw nm nb nt nl hbk htk sz att pl so nu fa fp rdr.2.2.2.1 rdr.2.2.2.2.1 tv tw tm o fo la un um isC md fw (xs (i + 1)) (xs (i + 2)) _ e6) (cwV 2 hts gL0_law_X6_place rfl rfl rfl (by decide +kernel) ⟨Nat.le_of_ble_eq_true rfl, Nat.le_of_ble_eq_true rfl⟩) rfl hK hP hD hS hA 62 rfl rfl rfl [62, 63, 64, 65, 66, 67, 68, 69, 70, 71, 72, 73, 74, 75, 76, 77, 78, 79] rfl (by decide +kernel) rfl (Nat.le_of_ble_eq_true rfl) dL_law_431 ⟨hcl.1, hcl.2⟩ (fun H locs hP hD hS _ => ?_)
  have hP : va_P D vwCl (wL cA ad am bo (zI b) (zI t) li fr tape rdr rrow row nx past T A ah r tp (zI fe) va we (zI n) (zI b) (zI t) li pv pw pm (zI h) fr nv nw nm nb nt nl hbk htk sz att pl so nu fa fp rdr.2.2.2.1 rdr.2.2.2.2.1 tv tw tm o fo la un um isC md fw (if r = 0 then vp_updL ou 0 a.toInt64 else ou)) H := hP
  have hD : va_D AA (wL cA ad am bo (zI b) (zI t) li fr tape rdr rrow row nx past T A ah r tp (zI fe) va we (zI n) (zI b) (zI t) li pv pw pm (zI h) fr nv nw nm nb nt nl hbk htk sz att pl so nu fa fp rdr.2.2.2.1 rdr.2.2.2.2.1 tv tw tm o fo la un um isC md fw (if r = 0 then vp_updL ou 0 a.toInt64 else ou)) := hD
  refine lv_istore (lv' := [(6, .int a1), (5, .int r), (0, .ref b0), (1, .ref (ad 0)), (2, .ref (am 0)), (3, .ref bo), (4, .int (nI i))]) hx hb dL_law_434 hl (by decide) rfl (fun ls hl => ?_)
  refine lv_aload_n hx hb dL_law_436 rfl (lv_at hl 4 rfl) ?_
  have e7 : mX6_thrown r = some r := rfl
  refine xv_i (As := []) (rest := []) (ci := 6) (b := am 0) ⟨hx, hb, hml, hown, hts⟩ hl.1 (kX6_thrown l D cA am r tp (zI fe) va we (zI n) (zI b) (zI t) li pv pw pm (zI h) fr nv nw nm nb nt nl hbk htk sz att pl so nu fa fp rdr.2.2.2.1 rdr.2.2.2.2.1 tv tw tm o fo la un um isC md fw _ e7) (cwV 0 hts gL0_law_X6_thrown rfl rfl rfl (by decide +kernel) ⟨Nat.le_of_ble_eq_true rfl, Nat.le_of_ble_eq_true rfl⟩) rfl hK hP hD hS hA 62 rfl rfl rfl [62, 63, 64, 65, 66, 67, 68, 69, 70, 71, 72, 73, 74, 75, 76, 77, 78, 79] rfl (by decide +kernel) rfl (Nat.le_of_ble_eq_true rfl) dL_law_437 ⟨hcl.1, hcl.2⟩ (fun H locs hP hD hS _ => ?_)
  have hP : va_P D vwCl (wL cA ad am bo (zI b) (zI t) li fr tape rdr rrow row nx past T A ah r tp (zI fe) va we (zI n) (zI b) (zI t) li pv pw pm (zI h) fr nv nw nm nb nt nl hbk htk sz att pl so nu fa fp rdr.2.2.2.1 rdr.2.2.2.2.1 tv tw tm o fo la un um isC md fw (if r = 0 then vp_updL ou 0 a.toInt64 else ou)) H := hP
  have hD : va_D AA (wL cA ad am bo (zI b) (zI t) li fr tape rdr rrow row nx past T A ah r tp (zI fe) va we (zI n) (zI b) (zI t) li pv pw pm (zI h) fr nv nw nm nb nt nl hbk htk sz att pl so nu fa fp rdr.2.2.2.1 rdr.2.2.2.2.1 tv tw tm o fo la un um isC md fw (if r = 0 then vp_updL ou 0 a.toInt64 else ou)) := hD
  refine lv_iload hx hb dL_law_440 (lv_at hl 1 rfl) ?_
  refine lv_icmp_eq (tgt := 447) hx hb dL_law_442 (by decide) (fun _ => ?_) (fun q => absurd rfl q)
  have K2 : W p l e room_1 s m #[Value.ref b0] below meth c H locs (cells + 1) (slots + 6) Q (F0 m 464 ls []) := by
    refine lv_goto (tgt := 2566) hx hb dL_law_464 (by decide) ?_
    exact K H locs ls ⟨n, h, b, t, fe, V, G, B, P, li, fr, tape, rdr, rrow, row, nx, past, T, A, ah, r, tp, va, we, pv, pw, pm, nv, nw, nm, nb, nt, nl, hbk, htk, sz, att, pl, so, nu, fa, fp, tv, tw, tm, o, fo, la, un, um, isC, md, fw, (if r = 0 then vp_updL ou 0 a.toInt64 else ou), hP, hD, hB, hTB, h6, hBy, hb2, ht, hTa, hAs⟩ hS (lv_sub hl [2, 3, 4, 5, 6] rfl)
  refine lv_iload hx hb dL_law_447 (lv_at hl 1 rfl) ?_
  refine lv_if_ne (tgt := 464) hx hb dL_law_449 (by decide) (fun _ => K2) (fun hr0 => ?_)
  refine lv_aload_n hx hb dL_law_452 rfl (lv_at hl 5 rfl) ?_
  refine lv_iconst (v := 0) hx hb dL_law_453 (by decide) ?_
  refine va_lald hx hb hK hP 80 4 rfl rfl (vp_in_nI (n := 0) (N := 1) (by omega) (by omega)) dL_law_454 ?_
  refine lv_iload hx hb dL_law_455 (lv_at hl 0 rfl) ?_
  refine lv_i2l hx hb dL_law_457 rfl ?_
  refine W.lcmp hx hb dL_law_458 ?_
  refine lv_if_eq (tgt := 464) hx hb dL_law_459 (by decide) (fun _ => K2) (fun q => absurd ?_ q)
  rw [if_pos hr0, hka hr0]
  exact lg_self _
