/-! place: what a throw needs, the words, the contract -/
def atIO : List Cond := vx_atS RX5 103 "java/lang/IndexOutOfBoundsException" ["java/lang/RuntimeException", "java/lang/Exception"]
def atNS : List Cond := vx_atX RX5 127 "java/util/NoSuchElementException" 13 prog_22_method_4_code ["java/lang/RuntimeException", "java/lang/Exception"]
def EP (A : Nat → Prop) (U : State) (H : Heap) : Prop := vx_Zq Bundle.tN "UNASSIGNED_STACK" Bundle.steD A U H ∧ vx_Zq Bundle.tN "SUPPRESSED_SENTINEL" Bundle.listD A U H
def EC (U : State) : Prop := va_Nw (.castable "java/lang/IndexOutOfBoundsException" "java/lang/IndexOutOfBoundsException") U ∧ va_Nw (.castable "java/util/NoSuchElementException" "java/util/NoSuchElementException") U ∧ va_Nc "java/util/NoSuchElementException" "java/lang/IndexOutOfBoundsException" U ∧ va_Nw (.declares (Bundle.initS "java/lang/RuntimeException")) U ∧ va_Nw (.declares (Bundle.initS "java/lang/Exception")) U ∧ va_Nw (.declares (Bundle.initS Bundle.tN)) U
theorem EP.moved {A : Nat → Prop} {u U : State} {H : Heap} (hvm : u.vm.Alike U.vm) (h : EP A u H) : EP A U H := ⟨vx_Zq.moved hvm h.1, vx_Zq.moved hvm h.2⟩
theorem EP.kept {A : Nat → Prop} {U : State} {H H1 : Heap} (h : EP A U H) (hq : ∀ a : Nat, a < H.size → ¬ A a → H1[a]? = H[a]?) : EP A U H1 := ⟨h.1.kept hq, h.2.kept hq⟩
theorem EP.narrow {A B : Nat → Prop} {U : State} {H : Heap} (h : EP A U H) (hAB : ∀ q, B q → A q) : EP B U H := ⟨h.1.narrow hAB, h.2.narrow hAB⟩
theorem EC.warm {s U : State} (hW : s.WarmedH U.vm) (h : EC s) : EC U := ⟨va_Nw.warmC hW h.1, va_Nw.warmC hW h.2.1, h.2.2.1.moved hW.alike, va_Nw.warmD hW h.2.2.2.1, va_Nw.warmD hW h.2.2.2.2.1, va_Nw.warmD hW h.2.2.2.2.2⟩
theorem EC.same {u U : State} (hv : u.vm = U.vm) (h : EC u) : EC U := ⟨h.1.same rfl hv, h.2.1.same rfl hv, h.2.2.1.moved (by rw [hv]; exact Vm.Alike.refl _), h.2.2.2.1.same rfl hv, h.2.2.2.2.1.same rfl hv, h.2.2.2.2.2.same rfl hv⟩
set_option maxRecDepth 20000 in
theorem atIO_rest : ∀ w ∈ atIO.filter (fun w => !goodWord w), w ∈ [Cond.castable "java/lang/IndexOutOfBoundsException" "java/lang/IndexOutOfBoundsException", .declares (Bundle.initS "java/lang/RuntimeException"), .declares (Bundle.initS "java/lang/Exception"), .declares (Bundle.initS Bundle.tN)] := by decide +kernel
set_option maxRecDepth 20000 in
theorem atNS_rest : ∀ w ∈ atNS.filter (fun w => !goodWord w), w ∈ [Cond.castable "java/util/NoSuchElementException" "java/util/NoSuchElementException", .declares (Bundle.initS "java/lang/RuntimeException"), .declares (Bundle.initS "java/lang/Exception"), .declares (Bundle.initS Bundle.tN)] := by decide +kernel
set_option maxRecDepth 20000 in
theorem atIO_good : ∀ w ∈ Cond.classLink RX5 99 "java/lang/IndexOutOfBoundsException" :: Cond.initialized "java/lang/IndexOutOfBoundsException" :: atIO, vx_ot w = true := by decide +kernel
set_option maxRecDepth 20000 in
theorem atNS_good : ∀ w ∈ Cond.classLink RX5 123 "java/util/NoSuchElementException" :: Cond.initialized "java/util/NoSuchElementException" :: atNS, vx_ot w = true := by decide +kernel
def wsX5_pl : List Cond := .code yX5_place cX5_place 4 (some .int) :: ((wsX5_place_r1 ++ wsX5_place_r2) ++ wsX50 ++ wsX20 ++ atIO.filter goodWord ++ atNS.filter goodWord)
set_option maxRecDepth 20000 in
theorem ggX5_pl_X2_has : GoodIn wsX5_pl wsX2_has := goodIn_r _ [13, 14, 44, 45, 46] (by decide +kernel) (by decide +kernel)
set_option maxRecDepth 20000 in
theorem gX5_pl_X2_has : GoodIn wsX5_pl (wsV RX5 95 RX2 yX2_has wsX2_has) := goodIn_app (goodIn_of _ (by decide +kernel)) ggX5_pl_X2_has
set_option maxRecDepth 20000 in
theorem ggX5_pl_X2_howOften : GoodIn wsX5_pl wsX2_howOften := goodIn_r _ [18, 19, 44, 45, 46] (by decide +kernel) (by decide +kernel)
set_option maxRecDepth 20000 in
theorem gX5_pl_X2_howOften : GoodIn wsX5_pl (wsV RX5 112 RX2 yX2_howOften wsX2_howOften) := goodIn_app (goodIn_of _ (by decide +kernel)) ggX5_pl_X2_howOften
set_option maxRecDepth 20000 in
theorem ggX5_pl_X2_from : GoodIn wsX5_pl wsX2_from := goodIn_r _ [23, 24, 25, 26, 12, 27, 14, 19, 44, 45, 46] (by decide +kernel) (by decide +kernel)
set_option maxRecDepth 20000 in
theorem gX5_pl_X2_from : GoodIn wsX5_pl (wsV RX5 116 RX2 yX2_from wsX2_from) := goodIn_app (goodIn_of _ (by decide +kernel)) ggX5_pl_X2_from
set_option maxRecDepth 20000 in
theorem ggX5_pl_X2_upTo : GoodIn wsX5_pl wsX2_upTo := goodIn_r _ [31, 19, 44, 45, 46] (by decide +kernel) (by decide +kernel)
set_option maxRecDepth 20000 in
theorem gX5_pl_X2_upTo : GoodIn wsX5_pl (wsV RX5 120 RX2 yX2_upTo wsX2_upTo) := goodIn_app (goodIn_of _ (by decide +kernel)) ggX5_pl_X2_upTo

def mWp (D : va_G) (cA : Nat → ClassId) (adK : Nat → Nat) (W : va_W) (sz : Nat) (U : State) : Prop := mW D cA W sz U ∧ (vk_R "ModeDesk" 101 "no such place" (adK 8) U ∧ vk_R "ModeDesk" 125 "no such what" (adK 9) U) ∧ EP (va_A W sz) U U.heap ∧ EC U
def MXp (l : Launch) (y : MethodName) (ws : List Cond) (rm : Room) (D : va_G) (cA : Nat → ClassId) (adK : Nat → Nat) (av : List Value) (W : va_W) (k v : Int32) : Prop :=
  ∀ sz : Nat, vx_Met l y ws rm (va_Pc av (mWp D cA adK W sz)) (va_Qi (fun (x : Int32) (_ : Unit) => k = 0 ∧ x = v) (fun _ t => va_P D vwCl W t.heap) (va_A W sz)) (vx_X (fun _ : Unit => True) (fun E _ t => ((k = 1 ∧ E = "java/lang/IndexOutOfBoundsException") ∨ (k = 2 ∧ E = "java/util/NoSuchElementException")) ∧ va_P D vwCl W t.heap) (va_A W sz)) 1 6 (va_A W sz)
theorem w_blindP {D : va_G} {cA : Nat → ClassId} {adK : Nat → Nat} {W : va_W} {av : List Value} {sz : Nat} : FrameBlind (va_Pc av (mWp D cA adK W sz)) := fun a U g mk q => by
  obtain ⟨q0, ⟨q1, qP, qK, qD⟩, ⟨qR, qS⟩, qE, qC⟩ := q
  exact ⟨q0, ⟨q1, qP, va_K.moved (u := U) (U := U.calling g mk a) (Vm.Alike.refl U.vm) qK, qD⟩, ⟨qR.same rfl, qS.same rfl⟩, EP.moved (u := U) (U := U.calling g mk a) (Vm.Alike.refl U.vm) qE, EC.same (u := U) (U := U.calling g mk a) rfl qC⟩
set_option maxHeartbeats 4000000 in
set_option maxRecDepth 100000 in
theorem kX5_place (l : Launch) (hfl : l.stackTraces = false) (D : va_G) (cA : Nat → ClassId) (adK : Nat → Nat) (ad : Nat → Nat) (block ties lines pmn : Int32) (row : RowT) (x1 x2 k v : Int32) (h : mX5_place block row x1 x2 = some (k, v)) : MXp l yX5_place wsX5_pl { frames := 6, cells := 1, slots := 6, locals := 90 } D cA adK [.ref (ad 0), .int x1, .int x2] (wD_row cA ad block ties lines pmn row) k v := by
  intro sz
  refine vx_ofW (cc := cX5_place) (maxL := 4) (ret := some .int) (by decide) rfl ?_
  intro p e s m args below meth c s₁ B0 hml hno hv
  obtain ⟨rfl, ⟨hsz, hP, hK, hD0⟩, ⟨hR8, hR9⟩, hEP, hEC⟩ := hv
  have hlocks := B0.notSynchronized
  subst hsz
  rw [lg_entry_eq]
  have hx := B0.exec
  have hb := B0.bytes
  have hts := atoms_spec (ws := wsX5_pl) B0.pre
  have hown : s.vm.findClass RX5 = some m.cls := findClass_of_methodNamed B0.named
  have hD : va_D (va_A (wD_row cA ad block ties lines pmn row) s.heap.size) (wD_row cA ad block ties lines pmn row) := hD0.self
  have hA : ∀ q : Nat, s.heap.size ≤ q → va_A (wD_row cA ad block ties lines pmn row) s.heap.size q := fun q h => Or.inr h
  have hS : va_S (va_A (wD_row cA ad block ties lines pmn row) s.heap.size) s.heap s.heap [] := va_S.rf
  have hl := lv_entry [.ref (ad 0), .int x1, .int x2] (n := 4) (Nat.le_of_ble_eq_true rfl)
  generalize (lg_sl [.ref (ad 0), .int x1, .int x2] ++ List.replicate (4 - (lg_sl [.ref (ad 0), .int x1, .int x2]).length) Slot.unset).toArray = ls at hl ⊢
  have hl : lv_has ls 4 [(0, .ref (ad 0)), (1, .int x1), (2, .int x2)] := hl
  have f106 := hts (.fieldLink RX5 106 "ModeDesk$Row" "values" "[I") (by decide +kernel)
  have f109 := hts (.fieldLink RX5 109 "ModeDesk$Row" "weights" "[I") (by decide +kernel)
  have f26 := hts (.fieldLink RX5 26 "ModeDesk" "row" "LModeDesk$Row;") (by decide +kernel)
  have f54 := hts (.fieldLink RX5 54 "ModeDesk" "block" "I") (by decide +kernel)
  have iX2 : ∀ w ∈ wsX20, w ∈ wsX5_pl := by decide +kernel
  have iX5 : ∀ w ∈ wsX50, w ∈ wsX5_pl := by decide +kernel
  unfold mX5_place at h
  refine lv_aload_n hx hb dX5_place_0 rfl (lv_at hl 0 rfl) ?_
  refine va_get (D := D) (ci := 5) (v := .ref (ad 7)) (C := RX5) (T := TX5) (N := 12) hx hb hts iX5 hown hK hP 0 rfl rfl 2 (Nat.le_of_ble_eq_true rfl) f26 (fun _ h9 => h9) rfl dX5_place_1 ?_
  refine lv_iload_n hx hb dX5_place_4 rfl (lv_at hl 1 rfl) ?_
  obtain ⟨q1, eq1, h⟩ := e_b h
  refine xv_i (As := [.int x1]) (rest := []) (ci := 2) (b := ad 7) ⟨hx, hb, hml, hown, hts⟩ hl.1 (kX2_has l D cA (fun i => ad (7 + i)) row x1 _ eq1) (cwV 1 hts gX5_pl_X2_has rfl rfl rfl (by decide +kernel) ⟨Nat.le_of_ble_eq_true rfl, Nat.le_of_ble_eq_true rfl⟩) rfl hK hP hD hS hA 1 rfl rfl rfl [1, 2, 3] rfl (by decide +kernel) rfl (Nat.le_of_ble_eq_true rfl) dX5_place_5 ⟨Nat.zero_le _, Nat.zero_le _⟩ (fun H locs hP hD hS hnq1 => ?_)
  have hP : va_P D vwCl (wD_row cA ad block ties lines pmn row) H := hP
  have hD : va_D (va_A (wD_row cA ad block ties lines pmn row) s.heap.size) (wD_row cA ad block ties lines pmn row) := hD
  refine lv_if_ne (tgt := 21) hx hb dX5_place_8 (by decide) (fun c2 => ?_) (fun c2 => ?_)
  · have h := e_t c2 h
    refine lv_aload_n hx hb dX5_place_21 rfl (lv_at hl 0 rfl) ?_
    refine va_get (D := D) (ci := 5) (v := .ref (ad 7)) (C := RX5) (T := TX5) (N := 12) hx hb hts iX5 hown hK hP 0 rfl rfl 2 (Nat.le_of_ble_eq_true rfl) f26 (fun _ h9 => h9) rfl dX5_place_22 ?_
    refine va_get (D := D) (ci := 2) (v := .ref (ad 8)) (C := RX2) (T := TX2) (N := 3) hx hb hts iX2 hown hK hP 1 rfl rfl 0 (Nat.le_of_ble_eq_true rfl) f106 (fun _ h9 => h9) rfl dX5_place_25 ?_
    refine lv_iload_n hx hb dX5_place_28 rfl (lv_at hl 1 rfl) ?_
    obtain ⟨u, eu, nu, h⟩ := e_rd h
    refine xa_iald hx hb hK hP 2 rfl nu eu dX5_place_29 ?_
    refine lv_istore_n (lv' := [(3, .int u), (0, .ref (ad 0)), (1, .int x1), (2, .int x2)]) hx hb dX5_place_30 rfl hl (by decide) rfl (fun ls hl => ?_)
    refine lv_iload_n hx hb dX5_place_31 rfl (lv_at hl 3 rfl) ?_
    by_cases c0 : x2 = 0
    · have h := e_t c0 h
      have e0 := e_s h
      subst c0
      refine lv_tableIn (tgt := 72) (off := 40) hx hb dX5_place_32 (by decide) (by decide) (by decide) (by decide) ?_
      refine lv_iload_n hx hb dX5_place_72 rfl (lv_at hl 0 rfl) ?_
      exact vx_ret (W.widen (k := 1) (n := 6) (Nat.zero_le _) (Nat.zero_le _) (W.iret hx hb B0.returns (fun t ht hW => ⟨⟨u, (), rfl, ⟨congrArg Prod.fst e0, (congrArg Prod.snd e0).symm⟩, by show va_P D vwCl _ t.heap; rw [ht]; exact hP⟩, hS.F ht⟩) hS.2.2 dX5_place_73 hlocks))
    · have h := e_f c0 h
      by_cases c1 : x2 = 1
      · have h := e_t c1 h
        subst c1
        refine lv_tableIn (tgt := 74) (off := 42) hx hb dX5_place_32 (by decide) (by decide) (by decide) (by decide) ?_
        refine lv_aload_n hx hb dX5_place_74 rfl (lv_at hl 1 rfl) ?_
        refine va_get (D := D) (ci := 5) (v := .ref (ad 7)) (C := RX5) (T := TX5) (N := 12) hx hb hts iX5 hown hK hP 0 rfl rfl 2 (Nat.le_of_ble_eq_true rfl) f26 (fun _ h9 => h9) rfl dX5_place_75 ?_
        refine va_get (D := D) (ci := 2) (v := .ref (ad 9)) (C := RX2) (T := TX2) (N := 3) hx hb hts iX2 hown hK hP 1 rfl rfl 1 (Nat.le_of_ble_eq_true rfl) f109 (fun _ h9 => h9) rfl dX5_place_78 ?_
        refine lv_iload_n hx hb dX5_place_81 rfl (lv_at hl 2 rfl) ?_
        obtain ⟨w, ew, nw, h⟩ := e_rd h
        have e0 := e_s h
        refine xa_iald hx hb hK hP 3 rfl nw ew dX5_place_82 ?_
        exact vx_ret (W.widen (k := 1) (n := 6) (Nat.zero_le _) (Nat.zero_le _) (W.iret hx hb B0.returns (fun t ht hW => ⟨⟨w, (), rfl, ⟨congrArg Prod.fst e0, (congrArg Prod.snd e0).symm⟩, by show va_P D vwCl _ t.heap; rw [ht]; exact hP⟩, hS.F ht⟩) hS.2.2 dX5_place_83 hlocks))
      · have h := e_f c1 h
        by_cases c2 : x2 = 2
        · have h := e_t c2 h
          subst c2
          refine lv_tableIn (tgt := 84) (off := 52) hx hb dX5_place_32 (by decide) (by decide) (by decide) (by decide) ?_
          refine lv_iload_n hx hb dX5_place_84 rfl (lv_at hl 2 rfl) ?_
          refine lv_aload_n hx hb dX5_place_85 rfl (lv_at hl 1 rfl) ?_
          refine va_get (D := D) (ci := 5) (v := .int block) (C := RX5) (T := TX5) (N := 12) hx hb hts iX5 hown hK hP 0 rfl rfl 8 (Nat.le_of_ble_eq_true rfl) f54 (fun _ h9 => h9) rfl dX5_place_86 ?_
          obtain ⟨w, ew, nw, h⟩ := e_dv h
          have e0 := e_s h
          refine lv_idiv hx hb dX5_place_89 nw ?_
          rw [ew]
          exact vx_ret (W.widen (k := 1) (n := 6) (Nat.zero_le _) (Nat.zero_le _) (W.iret hx hb B0.returns (fun t ht hW => ⟨⟨w, (), rfl, ⟨congrArg Prod.fst e0, (congrArg Prod.snd e0).symm⟩, by show va_P D vwCl _ t.heap; rw [ht]; exact hP⟩, hS.F ht⟩) hS.2.2 dX5_place_90 hlocks))
        · have h := e_f c2 h
          by_cases c3 : x2 = 3
          · have h := e_t c3 h
            subst c3
            refine lv_tableIn (tgt := 91) (off := 59) hx hb dX5_place_32 (by decide) (by decide) (by decide) (by decide) ?_
            refine lv_aload_n hx hb dX5_place_91 rfl (lv_at hl 1 rfl) ?_
            refine va_get (D := D) (ci := 5) (v := .ref (ad 7)) (C := RX5) (T := TX5) (N := 12) hx hb hts iX5 hown hK hP 0 rfl rfl 2 (Nat.le_of_ble_eq_true rfl) f26 (fun _ h9 => h9) rfl dX5_place_92 ?_
            refine lv_iload_n hx hb dX5_place_95 rfl (lv_at hl 0 rfl) ?_
            refine lv_iconst (v := 0) hx hb dX5_place_96 (by decide) ?_
            refine lv_iload_n hx hb dX5_place_97 rfl (lv_at hl 2 rfl) ?_
            refine lv_iconst (v := 1) hx hb dX5_place_98 (by decide) ?_
            refine lv_isub hx hb dX5_place_99 ?_
            obtain ⟨w, ew, h⟩ := e_b h
            have e0 := e_s h
            refine xv_i (As := [.int u, .int 0, .int (x1 - 1)]) (rest := []) (ci := 2) (b := ad 7) ⟨hx, hb, hml, hown, hts⟩ hl.1 (kX2_howOften l D cA (fun i => ad (7 + i)) row u 0 (x1 - 1) _ ew) (cwV 3 hts gX5_pl_X2_howOften rfl rfl rfl (by decide +kernel) ⟨Nat.le_of_ble_eq_true rfl, Nat.le_of_ble_eq_true rfl⟩) rfl hK hP hD hS hA 1 rfl rfl rfl [1, 2, 3] rfl (by decide +kernel) rfl (Nat.le_of_ble_eq_true rfl) dX5_place_100 ⟨Nat.zero_le _, Nat.zero_le _⟩ (fun H locs hP hD hS _ => ?_)
            exact vx_ret (W.widen (k := 1) (n := 6) (Nat.zero_le _) (Nat.zero_le _) (W.iret hx hb B0.returns (fun t ht hW => ⟨⟨w, (), rfl, ⟨congrArg Prod.fst e0, (congrArg Prod.snd e0).symm⟩, by show va_P D vwCl _ t.heap; rw [ht]; exact hP⟩, hS.F ht⟩) hS.2.2 dX5_place_103 hlocks))
          · have h := e_f c3 h
            by_cases c4 : x2 = 4
            · have h := e_t c4 h
              subst c4
              refine lv_tableIn (tgt := 104) (off := 72) hx hb dX5_place_32 (by decide) (by decide) (by decide) (by decide) ?_
              refine lv_aload_n hx hb dX5_place_104 rfl (lv_at hl 1 rfl) ?_
              refine va_get (D := D) (ci := 5) (v := .ref (ad 7)) (C := RX5) (T := TX5) (N := 12) hx hb hts iX5 hown hK hP 0 rfl rfl 2 (Nat.le_of_ble_eq_true rfl) f26 (fun _ h9 => h9) rfl dX5_place_105 ?_
              refine lv_iload_n hx hb dX5_place_108 rfl (lv_at hl 0 rfl) ?_
              refine lv_iload_n hx hb dX5_place_109 rfl (lv_at hl 2 rfl) ?_
              refine lv_iconst (v := 1) hx hb dX5_place_110 (by decide) ?_
              refine lv_iadd hx hb dX5_place_111 ?_
              obtain ⟨w, ew, h⟩ := e_b h
              have e0 := e_s h
              refine xv_i (As := [.int u, .int (x1 + 1)]) (rest := []) (ci := 2) (b := ad 7) ⟨hx, hb, hml, hown, hts⟩ hl.1 (kX2_from l D cA (fun i => ad (7 + i)) row u (x1 + 1) _ ew) (cwV 2 hts gX5_pl_X2_from rfl rfl rfl (by decide +kernel) ⟨Nat.le_of_ble_eq_true rfl, Nat.le_of_ble_eq_true rfl⟩) rfl hK hP hD hS hA 1 rfl rfl rfl [1, 2, 3] rfl (by decide +kernel) rfl (Nat.le_of_ble_eq_true rfl) dX5_place_112 ⟨Nat.zero_le _, Nat.zero_le _⟩ (fun H locs hP hD hS _ => ?_)
              exact vx_ret (W.widen (k := 1) (n := 6) (Nat.zero_le _) (Nat.zero_le _) (W.iret hx hb B0.returns (fun t ht hW => ⟨⟨w, (), rfl, ⟨congrArg Prod.fst e0, (congrArg Prod.snd e0).symm⟩, by show va_P D vwCl _ t.heap; rw [ht]; exact hP⟩, hS.F ht⟩) hS.2.2 dX5_place_115 hlocks))
            · have h := e_f c4 h
              by_cases c5 : x2 = 5
              · have h := e_t c5 h
                subst c5
                refine lv_tableIn (tgt := 116) (off := 84) hx hb dX5_place_32 (by decide) (by decide) (by decide) (by decide) ?_
                refine lv_aload_n hx hb dX5_place_116 rfl (lv_at hl 1 rfl) ?_
                refine va_get (D := D) (ci := 5) (v := .ref (ad 7)) (C := RX5) (T := TX5) (N := 12) hx hb hts iX5 hown hK hP 0 rfl rfl 2 (Nat.le_of_ble_eq_true rfl) f26 (fun _ h9 => h9) rfl dX5_place_117 ?_
                refine lv_iload_n hx hb dX5_place_120 rfl (lv_at hl 0 rfl) ?_
                refine lv_iload_n hx hb dX5_place_121 rfl (lv_at hl 2 rfl) ?_
                refine lv_iconst (v := 1) hx hb dX5_place_122 (by decide) ?_
                refine lv_isub hx hb dX5_place_123 ?_
                obtain ⟨w, ew, h⟩ := e_b h
                have e0 := e_s h
                refine xv_i (As := [.int u, .int (x1 - 1)]) (rest := []) (ci := 2) (b := ad 7) ⟨hx, hb, hml, hown, hts⟩ hl.1 (kX2_upTo l D cA (fun i => ad (7 + i)) row u (x1 - 1) _ ew) (cwV 2 hts gX5_pl_X2_upTo rfl rfl rfl (by decide +kernel) ⟨Nat.le_of_ble_eq_true rfl, Nat.le_of_ble_eq_true rfl⟩) rfl hK hP hD hS hA 1 rfl rfl rfl [1, 2, 3] rfl (by decide +kernel) rfl (Nat.le_of_ble_eq_true rfl) dX5_place_124 ⟨Nat.zero_le _, Nat.zero_le _⟩ (fun H locs hP hD hS _ => ?_)
                exact vx_ret (W.widen (k := 1) (n := 6) (Nat.zero_le _) (Nat.zero_le _) (W.iret hx hb B0.returns (fun t ht hW => ⟨⟨w, (), rfl, ⟨congrArg Prod.fst e0, (congrArg Prod.snd e0).symm⟩, by show va_P D vwCl _ t.heap; rw [ht]; exact hP⟩, hS.F ht⟩) hS.2.2 dX5_place_127 hlocks))
              · have h := e_f c5 h
                have e0 := e_s h
                have hk2 : k = 2 := congrArg Prod.fst e0
                have hout : x2.toInt < 0 ∨ 5 < x2.toInt := by
                  obtain ⟨z, hz, rfl⟩ := zI_ex x2
                  rw [show (0 : Int32) = zI 0 from rfl, zI_eq (by omega) (by omega) (by omega) (by omega)] at c0
                  rw [show (1 : Int32) = zI 1 from rfl, zI_eq (by omega) (by omega) (by omega) (by omega)] at c1
                  rw [show (2 : Int32) = zI 2 from rfl, zI_eq (by omega) (by omega) (by omega) (by omega)] at c2
                  rw [show (3 : Int32) = zI 3 from rfl, zI_eq (by omega) (by omega) (by omega) (by omega)] at c3
                  rw [show (4 : Int32) = zI 4 from rfl, zI_eq (by omega) (by omega) (by omega) (by omega)] at c4
                  rw [show (5 : Int32) = zI 5 from rfl, zI_eq (by omega) (by omega) (by omega) (by omega)] at c5
                  rw [zI_t (by omega) (by omega)]
                  omega
                refine lv_tableOut (tgt := 128) hx hb dX5_place_32 hout (by decide) ?_
                exact vx_throwSX (ix := 13) (rx := prog_22_method_4_code) (by decide +kernel) (by decide +kernel) (by decide +kernel) (by decide +kernel) hx hb hfl (own := RX5) (cls := "java/util/NoSuchElementException") (text := "no such what") (names := ["java/lang/RuntimeException", "java/lang/Exception"]) (ik := 123) (is := 125) (ic := 127) (sa := adK 9) hown (by decide +kernel) (by decide +kernel) (hts _ (by decide +kernel)) (hts _ (by decide +kernel)) hR9 (vx_hat (fun w hw => hts w (List.mem_cons_of_mem _ (List.mem_append_right _ hw))) atNS_rest (vx_c (va_Nw.use rfl hEC.2.1) (vx_c (va_Nw.use rfl hEC.2.2.2.1) (vx_c (va_Nw.use rfl hEC.2.2.2.2.1) (vx_c (va_Nw.use rfl hEC.2.2.2.2.2) vx_n))))) atNS_good hEP.1 hEP.2 hS (hl.1.trans hml.symm) dX5_place_128 dX5_place_131 dX5_place_132 dX5_place_134 dX5_place_137 (fun x hx => (hno x hx).elim) (Nat.le_of_ble_eq_true rfl) (Nat.le_of_ble_eq_true rfl) (Nat.le_of_ble_eq_true rfl) (Nat.le_of_ble_eq_true rfl) hlocks (fun t hal hz hq => ⟨(), trivial, ⟨Or.inr ⟨hk2, rfl⟩, hP.kept (fun i q hi => hq q.1 (hP i q hi).lt)⟩, Nat.le_trans hS.1 hz, fun q h1 h2 => (hq q (Nat.lt_of_lt_of_le h1 hS.1)).trans (hS.2.1 q h1 h2)⟩) hS.2.2 (Nat.le_of_ble_eq_true rfl) (Nat.le_of_ble_eq_true rfl)
  · have h := e_f (not_not_intro c2) h
    have e0 := e_s h
    have hk1 : k = 1 := congrArg Prod.fst e0
    exact vx_throwS hx hb hfl (own := RX5) (cls := "java/lang/IndexOutOfBoundsException") (text := "no such place") (names := ["java/lang/RuntimeException", "java/lang/Exception"]) (ik := 99) (is := 101) (ic := 103) (sa := adK 8) hown (by decide +kernel) (by decide +kernel) (hts _ (by decide +kernel)) (hts _ (by decide +kernel)) hR8 (vx_hat (fun w hw => hts w (List.mem_cons_of_mem _ (List.mem_append_left _ (List.mem_append_right _ hw)))) atIO_rest (vx_c (va_Nw.use rfl hEC.1) (vx_c (va_Nw.use rfl hEC.2.2.2.1) (vx_c (va_Nw.use rfl hEC.2.2.2.2.1) (vx_c (va_Nw.use rfl hEC.2.2.2.2.2) vx_n))))) atIO_good hEP.1 hEP.2 hS (hl.1.trans hml.symm) dX5_place_11 dX5_place_14 dX5_place_15 dX5_place_17 dX5_place_20 (fun x hx => (hno x hx).elim) (Nat.le_of_ble_eq_true rfl) (Nat.le_of_ble_eq_true rfl) (Nat.le_of_ble_eq_true rfl) (Nat.le_of_ble_eq_true rfl) hlocks (fun t hal hz hq => ⟨(), trivial, ⟨Or.inl ⟨hk1, rfl⟩, hP.kept (fun i q hi => hq q.1 (hP i q hi).lt)⟩, Nat.le_trans hS.1 hz, fun q h1 h2 => (hq q (Nat.lt_of_lt_of_le h1 hS.1)).trans (hS.2.1 q h1 h2)⟩) hS.2.2 (Nat.le_of_ble_eq_true rfl) (Nat.le_of_ble_eq_true rfl)
