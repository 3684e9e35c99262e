/-! THE LAW'S LOOP -/
set_option maxHeartbeats 8000000 in
set_option maxRecDepth 100000 in
theorem law_loop {p : Program} {l : Launch} {e : Env} {s : State} {m : MethodId} {below : List Frame} {meth : Method} {c : Code} {Q : State → Prop} {D : va_G} {cA : Nat → ClassId} {adK adV ad am : Nat → Nat} {AA : Nat → Prop} {b0 L bo : Nat} {xs : Nat → Int32} (hfl : l.flags = flags0) (C : LCx p s m c D cA adK adV AA b0 L xs) (hend : ∀ (H : Heap) (locs : List Loc) (ls : Array Slot) (cells slots : Nat), va_S AA s.heap H locs → cells ≤ 601024 → slots ≤ 7293034 → W p l e room_1 s m #[Value.ref b0] below meth c H locs cells slots Q (F0 m 2572 ls [])) :
    ∀ (k i cells slots : Nat) (H : Heap) (locs : List Loc) (ls : Array Slot), i ≤ L → L < i + 6 * k → cells + k ≤ 601024 → slots + 6 * k ≤ 7293034 → LSt D cA ad am bo AA H → va_S AA s.heap H locs → lv_has ls 7 (lvL b0 ad am bo i) → W p l e room_1 s m #[Value.ref b0] below meth c H locs cells slots Q (F0 m 23 ls [])
  | 0, i, cells, slots, H, locs, ls, h1, h2, _, _, _, _, _ => by omega
  | k + 1, i, cells, slots, H, locs, ls, h1, h2, h3, h4, hSt, hS, hl => by
    obtain ⟨hx, hb, hml, hown, hts, hK, hA, hX, hbl, hbA, hE, hRR, hL, hPl⟩ := id C
    refine lv_iload hx hb dL_law_23 (lv_at hl 4 rfl) ?_
    refine lv_aload_n hx hb dL_law_25 rfl (lv_at hl 0 rfl) ?_
    refine va_slen hx hb hX hbl hbA hS dL_law_26 ?_
    refine lv_bipush (v := 6) hx hb dL_law_27 (by decide) ?_
    refine lv_isub hx hb dL_law_29 ?_
    refine lv_icmp_gt (tgt := 2572) hx hb dL_law_30 (by decide) (fun q => ?_) (fun q => ?_)
    · exact hend H locs ls cells slots hS (by omega) (by omega)
    · have hi : i + 6 ≤ L := by
        refine Nat.not_lt.mp fun z => q ?_
        rw [show Int32.ofNat L = zI (L : Int) from Int32.ofInt_eq_ofNat.symm, show nI i = zI (i : Int) from Int32.ofInt_eq_ofNat.symm, show (6 : Int32) = zI 6 from rfl, zI_sub, zI_lt (by omega) (by omega) (by omega) (by omega)]
        omega
      have hcl : cells + 1 ≤ room_1.cells ∧ slots + 6 ≤ room_1.slots := ⟨by show cells + 1 ≤ 601024; omega, by show slots + 6 ≤ 7293034; omega⟩
      refine lv_aload_n hx hb dL_law_33 rfl (lv_at hl 0 rfl) ?_
      refine lv_iload hx hb dL_law_34 (lv_at hl 4 rfl) ?_
      refine va_sld hx hb hX hbl hbA hS (vp_in_nI (n := i) (by omega) (by omega)) dL_law_36 ?_
      refine lv_bipush (v := 63) hx hb dL_law_37 (by decide) ?_
      refine lv_iand hx hb dL_law_39 ?_
      have K : LNx p l e s m below meth c Q D cA ad am bo AA b0 i cells slots := by
        intro H locs ls hSt hS hl
        refine lv_iinc (v := nI (i + 6)) (lv' := [(4, .int (nI (i + 6))), (0, .ref b0), (1, .ref (ad 0)), (2, .ref (am 0)), (3, .ref bo)]) hx hb dL_law_2566 hl (k := 4) rfl (nI_add i 6) (by decide) rfl (fun ls hl => ?_)
        refine lv_goto (tgt := 23) hx hb dL_law_2569 (by decide) ?_
        exact law_loop hfl C hend k (i + 6) (cells + 1) (slots + 6) H locs ls (by omega) (by omega) (by omega) (by omega) hSt hS (lv_sub hl [1, 2, 3, 4, 0] rfl)
      obtain ⟨j, hj, ej⟩ := pk_andE (xs (nI i).toNatClampNeg) (m := 63) 6 (by decide)
      rw [ej]
      by_cases d : j < 55
      · rcases (show j = 0 ∨ j = 1 ∨ j = 2 ∨ j = 3 ∨ j = 4 ∨ j = 5 ∨ j = 6 ∨ j = 7 ∨ j = 8 ∨ j = 9 ∨ j = 10 ∨ j = 11 ∨ j = 12 ∨ j = 13 ∨ j = 14 ∨ j = 15 ∨ j = 16 ∨ j = 17 ∨ j = 18 ∨ j = 19 ∨ j = 20 ∨ j = 21 ∨ j = 22 ∨ j = 23 ∨ j = 24 ∨ j = 25 ∨ j = 26 ∨ j = 27 ∨ j = 28 ∨ j = 29 ∨ j = 30 ∨ j = 31 ∨ j = 32 ∨ j = 33 ∨ j = 34 ∨ j = 35 ∨ j = 36 ∨ j = 37 ∨ j = 38 ∨ j = 39 ∨ j = 40 ∨ j = 41 ∨ j = 42 ∨ j = 43 ∨ j = 44 ∨ j = 45 ∨ j = 46 ∨ j = 47 ∨ j = 48 ∨ j = 49 ∨ j = 50 ∨ j = 51 ∨ j = 52 ∨ j = 53 ∨ j = 54 by omega) with rfl | rfl | rfl | rfl | rfl | rfl | rfl | rfl | rfl | rfl | rfl | rfl | rfl | rfl | rfl | rfl | rfl | rfl | rfl | rfl | rfl | rfl | rfl | rfl | rfl | rfl | rfl | rfl | rfl | rfl | rfl | rfl | rfl | rfl | rfl | rfl | rfl | rfl | rfl | rfl | rfl | rfl | rfl | rfl | rfl | rfl | rfl | rfl | rfl | rfl | rfl | rfl | rfl | rfl | rfl
        · exact lv_tableIn (tgt := 276) (off := 236) hx hb dL_law_40 (by decide) (by decide) (by decide +kernel) (by decide) (lc_0 C hSt hS hl hi hcl K)
        · exact lv_tableIn (tgt := 349) (off := 309) hx hb dL_law_40 (by decide) (by decide) (by decide +kernel) (by decide) (lc_1 C hSt hS hl hi hcl K)
        · exact lv_tableIn (tgt := 374) (off := 334) hx hb dL_law_40 (by decide) (by decide) (by decide +kernel) (by decide) (lc_2 C hSt hS hl hi hcl K)
        · exact lv_tableIn (tgt := 399) (off := 359) hx hb dL_law_40 (by decide) (by decide) (by decide +kernel) (by decide) (lc_3 hfl C hSt hS hl hi hcl K)
        · exact lv_tableIn (tgt := 467) (off := 427) hx hb dL_law_40 (by decide) (by decide) (by decide +kernel) (by decide) (lc_4 C hSt hS hl hi hcl K)
        · exact lv_tableIn (tgt := 504) (off := 464) hx hb dL_law_40 (by decide) (by decide) (by decide +kernel) (by decide) (lc_5 C hSt hS hl hi hcl K)
        · exact lv_tableIn (tgt := 541) (off := 501) hx hb dL_law_40 (by decide) (by decide) (by decide +kernel) (by decide) (lc_6 C hSt hS hl hi hcl K)
        · exact lv_tableIn (tgt := 578) (off := 538) hx hb dL_law_40 (by decide) (by decide) (by decide +kernel) (by decide) (lc_7 C hSt hS hl hi hcl K)
        · exact lv_tableIn (tgt := 603) (off := 563) hx hb dL_law_40 (by decide) (by decide) (by decide +kernel) (by decide) (lc_8 C hSt hS hl hi hcl K)
        · exact lv_tableIn (tgt := 652) (off := 612) hx hb dL_law_40 (by decide) (by decide) (by decide +kernel) (by decide) (lc_9 C hSt hS hl hi hcl K)
        · exact lv_tableIn (tgt := 689) (off := 649) hx hb dL_law_40 (by decide) (by decide) (by decide +kernel) (by decide) (lc_10 C hSt hS hl hi hcl K)
        · exact lv_tableIn (tgt := 726) (off := 686) hx hb dL_law_40 (by decide) (by decide) (by decide +kernel) (by decide) (lc_11 C hSt hS hl hi hcl K)
        · exact lv_tableIn (tgt := 775) (off := 735) hx hb dL_law_40 (by decide) (by decide) (by decide +kernel) (by decide) (lc_12 C hSt hS hl hi hcl K)
        · exact lv_tableIn (tgt := 812) (off := 772) hx hb dL_law_40 (by decide) (by decide) (by decide +kernel) (by decide) (lc_13 C hSt hS hl hi hcl K)
        · exact lv_tableIn (tgt := 877) (off := 837) hx hb dL_law_40 (by decide) (by decide) (by decide +kernel) (by decide) (lc_14 C hSt hS hl hi hcl K)
        · exact lv_tableIn (tgt := 890) (off := 850) hx hb dL_law_40 (by decide) (by decide) (by decide +kernel) (by decide) (lc_15 C hSt hS hl hi hcl K)
        · exact lv_tableIn (tgt := 903) (off := 863) hx hb dL_law_40 (by decide) (by decide) (by decide +kernel) (by decide) (lc_16 C hSt hS hl hi hcl K)
        · exact lv_tableIn (tgt := 940) (off := 900) hx hb dL_law_40 (by decide) (by decide) (by decide +kernel) (by decide) (lc_17 C hSt hS hl hi hcl K)
        · exact lv_tableIn (tgt := 989) (off := 949) hx hb dL_law_40 (by decide) (by decide) (by decide +kernel) (by decide) (lc_18 C hSt hS hl hi hcl K)
        · exact lv_tableIn (tgt := 1050) (off := 1010) hx hb dL_law_40 (by decide) (by decide) (by decide +kernel) (by decide) (lc_19 C hSt hS hl hi hcl K)
        · exact lv_tableIn (tgt := 1099) (off := 1059) hx hb dL_law_40 (by decide) (by decide) (by decide +kernel) (by decide) (lc_20 C hSt hS hl hi hcl K)
        · exact lv_tableIn (tgt := 1148) (off := 1108) hx hb dL_law_40 (by decide) (by decide) (by decide +kernel) (by decide) (lc_21 C hSt hS hl hi hcl K)
        · exact lv_tableIn (tgt := 1185) (off := 1145) hx hb dL_law_40 (by decide) (by decide) (by decide +kernel) (by decide) (lc_22 C hSt hS hl hi hcl K)
        · exact lv_tableIn (tgt := 1222) (off := 1182) hx hb dL_law_40 (by decide) (by decide) (by decide +kernel) (by decide) (lc_23 C hSt hS hl hi hcl K)
        · exact lv_tableIn (tgt := 1271) (off := 1231) hx hb dL_law_40 (by decide) (by decide) (by decide +kernel) (by decide) (lc_24 C hSt hS hl hi hcl K)
        · exact lv_tableIn (tgt := 1308) (off := 1268) hx hb dL_law_40 (by decide) (by decide) (by decide +kernel) (by decide) (lc_25 C hSt hS hl hi hcl K)
        · exact lv_tableIn (tgt := 1357) (off := 1317) hx hb dL_law_40 (by decide) (by decide) (by decide +kernel) (by decide) (lc_26 C hSt hS hl hi hcl K)
        · exact lv_tableIn (tgt := 1406) (off := 1366) hx hb dL_law_40 (by decide) (by decide) (by decide +kernel) (by decide) (lc_27 C hSt hS hl hi hcl K)
        · exact lv_tableIn (tgt := 1455) (off := 1415) hx hb dL_law_40 (by decide) (by decide) (by decide +kernel) (by decide) (lc_28 C hSt hS hl hi hcl K)
        · exact lv_tableIn (tgt := 1492) (off := 1452) hx hb dL_law_40 (by decide) (by decide) (by decide +kernel) (by decide) (lc_29 C hSt hS hl hi hcl K)
        · exact lv_tableIn (tgt := 1529) (off := 1489) hx hb dL_law_40 (by decide) (by decide) (by decide +kernel) (by decide) (lc_30 C hSt hS hl hi hcl K)
        · exact lv_tableIn (tgt := 1578) (off := 1538) hx hb dL_law_40 (by decide) (by decide) (by decide +kernel) (by decide) (lc_31 C hSt hS hl hi hcl K)
        · exact lv_tableIn (tgt := 1627) (off := 1587) hx hb dL_law_40 (by decide) (by decide) (by decide +kernel) (by decide) (lc_32 C hSt hS hl hi hcl K)
        · exact lv_tableIn (tgt := 1664) (off := 1624) hx hb dL_law_40 (by decide) (by decide) (by decide +kernel) (by decide) (lc_33 C hSt hS hl hi hcl K)
        · exact lv_tableIn (tgt := 1701) (off := 1661) hx hb dL_law_40 (by decide) (by decide) (by decide +kernel) (by decide) (lc_34 C hSt hS hl hi hcl K)
        · exact lv_tableIn (tgt := 1726) (off := 1686) hx hb dL_law_40 (by decide) (by decide) (by decide +kernel) (by decide) (lc_35 C hSt hS hl hi hcl K)
        · exact lv_tableIn (tgt := 1763) (off := 1723) hx hb dL_law_40 (by decide) (by decide) (by decide +kernel) (by decide) (lc_36 C hSt hS hl hi hcl K)
        · exact lv_tableIn (tgt := 1800) (off := 1760) hx hb dL_law_40 (by decide) (by decide) (by decide +kernel) (by decide) (lc_37 C hSt hS hl hi hcl K)
        · exact lv_tableIn (tgt := 1849) (off := 1809) hx hb dL_law_40 (by decide) (by decide) (by decide +kernel) (by decide) (lc_38 C hSt hS hl hi hcl K)
        · exact lv_tableIn (tgt := 1910) (off := 1870) hx hb dL_law_40 (by decide) (by decide) (by decide +kernel) (by decide) (lc_39 C hSt hS hl hi hcl K)
        · exact lv_tableIn (tgt := 1959) (off := 1919) hx hb dL_law_40 (by decide) (by decide) (by decide +kernel) (by decide) (lc_40 C hSt hS hl hi hcl K)
        · exact lv_tableIn (tgt := 2008) (off := 1968) hx hb dL_law_40 (by decide) (by decide) (by decide +kernel) (by decide) (lc_41 C hSt hS hl hi hcl K)
        · exact lv_tableIn (tgt := 2045) (off := 2005) hx hb dL_law_40 (by decide) (by decide) (by decide +kernel) (by decide) (lc_42 C hSt hS hl hi hcl K)
        · exact lv_tableIn (tgt := 2094) (off := 2054) hx hb dL_law_40 (by decide) (by decide) (by decide +kernel) (by decide) (lc_43 C hSt hS hl hi hcl K)
        · exact lv_tableIn (tgt := 2159) (off := 2119) hx hb dL_law_40 (by decide) (by decide) (by decide +kernel) (by decide) (lc_44 C hSt hS hl hi hcl K)
        · exact lv_tableIn (tgt := 2208) (off := 2168) hx hb dL_law_40 (by decide) (by decide) (by decide +kernel) (by decide) (lc_45 C hSt hS hl hi hcl K)
        · exact lv_tableIn (tgt := 2281) (off := 2241) hx hb dL_law_40 (by decide) (by decide) (by decide +kernel) (by decide) (lc_46 C hSt hS hl hi hcl K)
        · exact lv_tableIn (tgt := 2330) (off := 2290) hx hb dL_law_40 (by decide) (by decide) (by decide +kernel) (by decide) (lc_47 C hSt hS hl hi hcl K)
        · exact lv_tableIn (tgt := 2379) (off := 2339) hx hb dL_law_40 (by decide) (by decide) (by decide +kernel) (by decide) (lc_48 C hSt hS hl hi hcl K)
        · exact lv_tableIn (tgt := 2416) (off := 2376) hx hb dL_law_40 (by decide) (by decide) (by decide +kernel) (by decide) (lc_49 C hSt hS hl hi hcl K)
        · exact lv_tableIn (tgt := 2441) (off := 2401) hx hb dL_law_40 (by decide) (by decide) (by decide +kernel) (by decide) (lc_50 C hSt hS hl hi hcl K)
        · exact lv_tableIn (tgt := 2466) (off := 2426) hx hb dL_law_40 (by decide) (by decide) (by decide +kernel) (by decide) (lc_51 C hSt hS hl hi hcl K)
        · exact lv_tableIn (tgt := 2491) (off := 2451) hx hb dL_law_40 (by decide) (by decide) (by decide +kernel) (by decide) (lc_52 C hSt hS hl hi hcl K)
        · exact lv_tableIn (tgt := 2516) (off := 2476) hx hb dL_law_40 (by decide) (by decide) (by decide +kernel) (by decide) (lc_53 C hSt hS hl hi hcl K)
        · exact lv_tableIn (tgt := 2541) (off := 2501) hx hb dL_law_40 (by decide) (by decide) (by decide +kernel) (by decide) (lc_54 C hSt hS hl hi hcl K)
      · refine lv_tableOut (tgt := 2566) hx hb dL_law_40 (Or.inr (by rw [nI_toInt (by omega)]; omega)) (by decide) ?_
        refine W.widen (Nat.le_add_right _ 1) (Nat.le_add_right _ 6) ?_
        exact K H locs ls hSt hS hl
