/-! the law's static place: what it catches -/
def wsL_pl : List Cond := .codeWith yL_place cL_place 5 (some .int) [(0, 10, 13, 13), (0, 10, 17, 15)] :: ((wsL_place_r1 ++ wsL_place_r2) ++ wsX50 ++ wsX20 ++ atIO.filter goodWord ++ atNS.filter goodWord)
set_option maxRecDepth 20000 in
theorem ggL_pl_X5_place : GoodIn wsL_pl wsX5_pl := goodIn_ca (goodIn_ca (goodIn_r _ [7, 8, 9, 10, 11, 12, 13, 14, 15, 16, 17, 18, 19, 20, 21, 22, 23, 24, 25, 26, 27, 28, 29, 30, 31, 32, 33, 34, 35, 36, 37, 38, 39, 40, 41, 42, 43, 44, 45, 46, 47, 48, 49, 50, 51, 52, 53] (by decide +kernel) (by decide +kernel)) (goodIn_sub (fun _ h => List.mem_cons_of_mem _ (List.mem_append_left _ (List.mem_append_right _ h))) (by decide +kernel))) (goodIn_sub (fun _ h => List.mem_cons_of_mem _ (List.mem_append_right _ h)) (by decide +kernel))
set_option maxRecDepth 20000 in
theorem gL_pl_X5_place : GoodIn wsL_pl (wsV RL 7 RX5 yX5_place wsX5_pl) := goodIn_app (goodIn_of _ (by decide +kernel)) ggL_pl_X5_place
theorem dL_place_0 : decode cL_place 0 = .ok (.aload_n 3, 1) := by decide +kernel
theorem dL_place_1 : decode cL_place 1 = .ok (.iconst 0, 1) := by decide +kernel
theorem dL_place_2 : decode cL_place 2 = .ok (.aload_n 0, 1) := by decide +kernel
theorem dL_place_3 : decode cL_place 3 = .ok (.iload_n 1, 1) := by decide +kernel
theorem dL_place_4 : decode cL_place 4 = .ok (.iload_n 2, 1) := by decide +kernel
theorem dL_place_5 : decode cL_place 5 = .ok (.invokevirtual 7, 3) := by decide +kernel
theorem dL_place_8 : decode cL_place 8 = .ok (.i2l, 1) := by decide +kernel
theorem dL_place_9 : decode cL_place 9 = .ok (.lastore, 1) := by decide +kernel
theorem dL_place_10 : decode cL_place 10 = .ok (.goto 11, 3) := by decide +kernel
theorem dL_place_13 : decode cL_place 13 = .ok (.astore 4, 2) := by decide +kernel
theorem dL_place_15 : decode cL_place 15 = .ok (.iconst 1, 1) := by decide +kernel
theorem dL_place_16 : decode cL_place 16 = .ok (.ireturn, 1) := by decide +kernel
theorem dL_place_17 : decode cL_place 17 = .ok (.astore 4, 2) := by decide +kernel
theorem dL_place_19 : decode cL_place 19 = .ok (.iconst 2, 1) := by decide +kernel
theorem dL_place_20 : decode cL_place 20 = .ok (.ireturn, 1) := by decide +kernel
theorem dL_place_21 : decode cL_place 21 = .ok (.iconst 0, 1) := by decide +kernel
theorem dL_place_22 : decode cL_place 22 = .ok (.ireturn, 1) := by decide +kernel
def MXl (l : Launch) (y : MethodName) (ws : List Cond) (rm : Room) (D : va_G) (cA : Nat → ClassId) (adK : Nat → Nat) (av : List Value) (W W' : va_W) (k : Int32) : Prop :=
  ∀ sz : Nat, vx_Met l y ws rm (va_Pc av (mWp D cA adK W sz)) (va_Qi (fun (x : Int32) (_ : Unit) => x = k) (fun _ t => va_P D vwCl W' t.heap) (va_A W sz)) (vx_X (fun _ : Unit => False) (fun _ _ _ => True) (va_A W sz)) 1 6 (va_A W sz)
set_option maxHeartbeats 4000000 in
set_option maxRecDepth 100000 in
theorem kL_place (l : Launch) (hfl : l.stackTraces = false) (D : va_G) (cA : Nat → ClassId) (adK : Nat → Nat) (ad : Nat → Nat) (bo : Nat) (block ties lines pmn : Int32) (row : RowT) (ou : Nat → Int64) (x1 x2 k v : Int32) (h : mX5_place block row x1 x2 = some (k, v)) : MXl l yL_place wsL_pl { frames := 7, cells := 1, slots := 6, locals := 120 } D cA adK [.ref (ad 0), .int x1, .int x2, .ref bo] (wD_row cA ad block ties lines pmn row ++ [(bo, .inl (cA 4, 1, .inr (.inl ou)))]) (wD_row cA ad block ties lines pmn row ++ [(bo, .inl (cA 4, 1, .inr (.inl (if k = 0 then vp_updL ou 0 v.toInt64 else ou))))]) k := by
  intro sz
  refine vx_ofWH (cc := cL_place) (maxL := 5) (ret := some .int) (hh := [(0, 10, 13, 13), (0, 10, 17, 15)]) (by decide) rfl ?_
  intro p e s m args below meth c s₁ B0 hml hv
  obtain ⟨rfl, ⟨hsz, hP, hK, hD0⟩, hRR, hEP, hEC⟩ := hv
  have hlocks := B0.notSynchronized
  subst hsz
  rw [lg_entry_eq]
  have hx := B0.exec
  have hb := B0.bytes
  have hts := atoms_spec (ws := wsL_pl) B0.pre
  have hown : s.vm.findClass RL = some m.cls := findClass_of_methodNamed B0.named
  have htab : c.exceptionTable.toList = tableOf [(0, 10, 13, 13), (0, 10, 17, 15)] := vx_table (x := yL_place) (y := yL_place) B0 (hts (.codeWith yL_place cL_place 5 (some .int) [(0, 10, 13, 13), (0, 10, 17, 15)]) List.mem_cons_self)
  have hD : va_D (va_A (wD_row cA ad block ties lines pmn row ++ [(bo, .inl (cA 4, 1, .inr (.inl ou)))]) s.heap.size) (wD_row cA ad block ties lines pmn row ++ [(bo, .inl (cA 4, 1, .inr (.inl ou)))]) := hD0.self
  have hA : ∀ q : Nat, s.heap.size ≤ q → va_A (wD_row cA ad block ties lines pmn row ++ [(bo, .inl (cA 4, 1, .inr (.inl ou)))]) s.heap.size q := fun q h => Or.inr h
  have hS : va_S (va_A (wD_row cA ad block ties lines pmn row ++ [(bo, .inl (cA 4, 1, .inr (.inl ou)))]) s.heap.size) s.heap s.heap [] := va_S.rf
  have hl := lv_entry [.ref (ad 0), .int x1, .int x2, .ref bo] (n := 5) (Nat.le_of_ble_eq_true rfl)
  generalize (lg_sl [.ref (ad 0), .int x1, .int x2, .ref bo] ++ List.replicate (5 - (lg_sl [.ref (ad 0), .int x1, .int x2, .ref bo]).length) Slot.unset).toArray = ls at hl ⊢
  have hl : lv_has ls 5 [(0, .ref (ad 0)), (1, .int x1), (2, .int x2), (3, .ref bo)] := hl
  refine lv_aload_n hx hb dL_place_0 rfl (lv_at hl 3 rfl) ?_
  refine lv_iconst (v := 0) hx hb dL_place_1 (by decide) ?_
  refine lv_aload_n hx hb dL_place_2 rfl (lv_at hl 0 rfl) ?_
  refine lv_iload_n hx hb dL_place_3 rfl (lv_at hl 1 rfl) ?_
  refine lv_iload_n hx hb dL_place_4 rfl (lv_at hl 2 rfl) ?_
  have hC : [0, 1, 2, 3].map (fun i => (wD_row cA ad block ties lines pmn row ++ [(bo, .inl (cA 4, 1, .inr (.inl ou)))])[i]?) = (wD_row cA ad block ties lines pmn row).map some := rfl
  have hPc := w_cut hC hP
  have hDc := w_cutD hC (by decide +kernel) hD
  have hFc := va_free (wc := wD_row cA ad block ties lines pmn row) hD hS hA [0, 1, 2, 3] hC
  refine vx_calli (vx_runV (As := [.int x1, .int x2]) (rest := [.int 0, .ref bo]) ⟨hx, hb, hml, hown, hts⟩ (kX5_place l hfl D cA adK ad block ties lines pmn row x1 x2 k v h s.heap.size) (cwV 2 hts gL_pl_X5_place rfl rfl rfl (by decide +kernel) ⟨Nat.le_of_ble_eq_true rfl, Nat.le_of_ble_eq_true rfl⟩) ⟨w_blindP, va_recv hK hP (ci := 5) (q0 := 0) rfl rfl, fun U hU hW => ⟨rfl, ⟨by rw [hU], by rw [hU]; exact hPc, va_K.moved hW.alike hK, hDc.weaken (fun _ _ _ _ => trivial)⟩, ⟨hRR.1.warm hW, hRR.2.warm hW⟩, by rw [hU]; exact ((hEP.narrow hFc).moved hW.alike), hEC.warm hW⟩⟩ rfl rfl hl.1 rfl (lv_room (Nat.le_of_ble_eq_true rfl)) dL_place_5 ⟨Nat.le_of_ble_eq_true rfl, Nat.le_of_ble_eq_true rfl⟩) hS (fun q _ h => hFc q h) hFc (fun q _ h => hFc q h) (fun E ce q9 u t H1 locs1 ht hal _ hB hz1 hk1 hS1 hce hcv hcl => ?_) (fun r u t H1 locs1 ht hvm hw hB hz1 hk1 hS1 => ?_)
  · obtain ⟨hE, hB⟩ := hB
    rw [ht] at hB
    obtain ⟨hP2, hD2⟩ := w_back hP hD hC rfl hk1 hB
    rcases hE with ⟨hk, rfl⟩ | ⟨hk, rfl⟩
    · have hP3 : va_P D vwCl (wD_row cA ad block ties lines pmn row ++ [(bo, .inl (cA 4, 1, .inr (.inl (if k = 0 then vp_updL ou 0 v.toInt64 else ou))))]) H1 := by rw [if_neg (by rw [hk]; decide)]; exact hP2
      refine vx_catch (name := "java/lang/IndexOutOfBoundsException") hown [] { startPc := 0, endPc := 10, handlerPc := 13, catchType := 13 } [{ startPc := 0, endPc := 10, handlerPc := 17, catchType := 15 }] (by rw [htab]; rfl) (fun z hz => nomatch hz) (by decide) (by decide) (hts _ (by decide +kernel)) (va_Nw.use rfl hEC.1) hce hcv hcl ?_
      refine lv_astore (lv' := [(4, .ref q9), (0, .ref (ad 0)), (1, .int x1), (2, .int x2), (3, .ref bo)]) hx hb dL_place_13 hl (by decide) rfl (fun ls hl => ?_)
      refine lv_iconst (v := 1) hx hb dL_place_15 (by decide) ?_
      exact vx_ret (W.iret hx hb B0.returns (fun t ht hW => ⟨⟨1, (), rfl, hk.symm, by show va_P D vwCl _ t.heap; rw [ht]; exact hP3⟩, hS1.F ht⟩) hS1.2.2 dL_place_16 hlocks)
    · have hP3 : va_P D vwCl (wD_row cA ad block ties lines pmn row ++ [(bo, .inl (cA 4, 1, .inr (.inl (if k = 0 then vp_updL ou 0 v.toInt64 else ou))))]) H1 := by rw [if_neg (by rw [hk]; decide)]; exact hP2
      refine vx_catch (name := "java/util/NoSuchElementException") hown [{ startPc := 0, endPc := 10, handlerPc := 13, catchType := 13 }] { startPc := 0, endPc := 10, handlerPc := 17, catchType := 15 } [] (by rw [htab]; rfl) (fun z hz => Or.inr (by rw [List.mem_singleton.mp hz]; exact ⟨by decide, "java/lang/IndexOutOfBoundsException", hts _ (by decide +kernel), hEC.2.2.1⟩)) (by decide) (by decide) (hts _ (by decide +kernel)) (va_Nw.use rfl hEC.2.1) hce hcv hcl ?_
      refine lv_astore (lv' := [(4, .ref q9), (0, .ref (ad 0)), (1, .int x1), (2, .int x2), (3, .ref bo)]) hx hb dL_place_17 hl (by decide) rfl (fun ls hl => ?_)
      refine lv_iconst (v := 2) hx hb dL_place_19 (by decide) ?_
      exact vx_ret (W.iret hx hb B0.returns (fun t ht hW => ⟨⟨2, (), rfl, hk.symm, by show va_P D vwCl _ t.heap; rw [ht]; exact hP3⟩, hS1.F ht⟩) hS1.2.2 dL_place_20 hlocks)
  · obtain ⟨hk, rfl⟩ := hw
    rw [ht] at hB
    obtain ⟨hP2, hD2⟩ := w_back hP hD hC rfl hk1 hB
    have hP2 : va_P D vwCl (wD_row cA ad block ties lines pmn row ++ [(bo, .inl (cA 4, 1, .inr (.inl ou)))]) H1 := hP2
    have hD2 : va_D (va_A (wD_row cA ad block ties lines pmn row ++ [(bo, .inl (cA 4, 1, .inr (.inl ou)))]) s.heap.size) (wD_row cA ad block ties lines pmn row ++ [(bo, .inl (cA 4, 1, .inr (.inl ou)))]) := hD2
    refine lv_i2l hx hb dL_place_8 rfl ?_
    refine va_last hx hb hK hP2 hD2 hS1 4 4 rfl rfl (vp_in_nI (n := 0) (N := 1) (by omega) (by omega)) dL_place_9 (fun H2 locs2 hP3 hD3 hS3 => ?_)
    refine lv_goto (tgt := 21) hx hb dL_place_10 (by decide) ?_
    refine lv_iconst (v := 0) hx hb dL_place_21 (by decide) ?_
    exact vx_ret (W.iret hx hb B0.returns (fun t ht hW => ⟨⟨0, (), rfl, hk.symm, by show va_P D vwCl _ t.heap; rw [ht]; exact (by rw [if_pos hk]; exact hP3)⟩, hS3.F ht⟩) hS3.2.2 dL_place_22 hlocks)
