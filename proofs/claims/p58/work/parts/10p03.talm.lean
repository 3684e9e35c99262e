/-! PURE ROWS. The class' tally and the reference's counts hold what was pushed -/
/-- an array begins with the list -/
def Lr (f : Nat → Int32) (K : List Int) : Prop := ∀ (i : Nat) (h : i < K.length), f i = zI K[i]
theorem Lr_nil (f : Nat → Int32) : Lr f [] := fun i h => absurd h (Nat.not_lt_zero i)
theorem Lr_sn {f : Nat → Int32} {K : List Int} (h : Lr f K) (x : Int) : Lr (upd f K.length (zI x)) (K ++ [x]) := by
  intro i hi
  unfold upd
  rw [List.length_append] at hi
  simp only [List.length_cons, List.length_nil] at hi
  by_cases e : i = K.length
  · rw [if_pos e]; subst e; simp
  · rw [if_neg e, h i (by omega), List.getElem_append_left (by omega)]
theorem rd_L {f : Nat → Int32} {K : List Int} (h : Lr f K) {c i : Nat} (hi : i < K.length) (hc : K.length ≤ c) (hc2 : c < 100000) : rd f c (zI (i : Int)) = some (zI K[i]) := by
  rw [rd_in (by omega) (by omega) (by omega), Int.toNat_natCast, h i hi]
theorem zI_s (i : Nat) : zI ((i : Int) + 1) = zI ((i + 1 : Nat) : Int) := rfl
theorem ah_tail {c d : Prop} [Decidable c] [Decidable d] (h : c ↔ ¬ d) : (if c then some (0 : Int32) else some 1) = some (if d then 1 else 0) := by
  by_cases z : d
  · rw [if_neg (fun q => (h.mp q) z), if_pos z]
  · rw [if_pos (h.mpr z), if_neg z]
theorem b01 {c : Prop} [Decidable c] : ((if c then (1 : Int32) else 0) = 0) ↔ ¬ c := by
  by_cases h : c
  · rw [if_pos h]; exact ⟨fun z => absurd z (by decide), fun z => absurd h z⟩
  · rw [if_neg h]; exact ⟨fun _ => h, fun _ => rfl⟩
def moT (pos : Int → Int) : Prop := ∀ i j : Int, 0 ≤ i → i < j → j ≤ 120 → 0 ≤ pos i ∧ pos i < pos j ∧ pos j < 100000
theorem moT.le {pos : Int → Int} (h : moT pos) {i j : Int} (hi : 0 ≤ i) (hi2 : i < 120) (hj : 0 ≤ j) (hj2 : j < 120) : pos i ≤ pos j ↔ i ≤ j := by
  constructor
  · intro z
    rcases Int.lt_or_le j i with q | q
    · have := h j i hj q (by omega); omega
    · exact q
  · intro z
    rcases Int.lt_or_eq_of_le z with q | q
    · have := h i j hi q (by omega); omega
    · rw [q]; exact Int.le_refl _
theorem moT.in {pos : Int → Int} (h : moT pos) {i : Int} (hi : 0 ≤ i) (hi2 : i < 120) : 0 ≤ pos i ∧ pos i < 100000 := by
  have := h i 120 hi (by omega) (by omega); omega
theorem moT_id : moT (fun i => i) := fun i j h0 h1 h2 => by show 0 ≤ i ∧ i < j ∧ j < 100000; omega
theorem moT_add {l : Int} (h : 0 ≤ l) (h2 : l < 50000) : moT (fun i => l + i) := fun i j h0 h1 h2 => by show 0 ≤ l + i ∧ l + i < l + j ∧ l + j < 100000; omega
def cuA (pos : Int → Int) (R : List Int) (f g h : Nat → Int32) : Prop :=
  okT R ∧ moT pos ∧ Ar f 1000 (cnT R) ∧ ∀ v ∈ R, g v.toNat = zI (pos (fiT R v)) ∧ h v.toNat = zI (pos (laT R v))
theorem tiT_0 (R : List Int) (v : Int) : tiT 0 R v = 2000 - fiT R v := rfl
theorem tiT_1 (R : List Int) (v : Int) : tiT 1 R v = laT R v := rfl
theorem tiT_2 (R : List Int) (v : Int) : tiT 2 R v = 2000 - v := rfl
theorem tiT_3 {t : Int} (h0 : t ≠ 0) (h1 : t ≠ 1) (h2 : t ≠ 2) (R : List Int) (v : Int) : tiT t R v = v := by unfold tiT; rw [if_neg h0, if_neg h1, if_neg h2]
theorem X6_ah {pos : Int → Int} {t : Int} {R : List Int} {f g h : Nat → Int32} (hc : cuA pos R f g h) (ht : 0 ≤ t ∧ t ≤ 3) {v w : Int} (hv : v ∈ R) (hw : w ∈ R) :
    mX6_isAhead f g h (zI v) (zI w) (zI t) = some (if kyT t R w < kyT t R v then 1 else 0) := by
  obtain ⟨ok, hm, hA, hG⟩ := hc
  have hv' := ok.2 v hv
  have hw' := ok.2 w hw
  have c1 := cnT_nn R v
  have c2 := cnT_nn R w
  have l := ok.1
  have f1 := fiT_in R v hv
  have f2 := fiT_in R w hw
  have l1 := laT_in R v hv
  have l2 := laT_in R w hw
  have a1 := tiT_in ok t hv
  have a2 := tiT_in ok t hw
  unfold mX6_isAhead
  rw [rd_A hA hv'.1 hv'.2 (by omega) (by omega), rd_A hA hw'.1 hw'.2 (by omega) (by omega)]
  simp only [sob]
  by_cases e : cnT R v = cnT R w
  · rw [if_pos (by rw [e])]
    by_cases t0 : t = 0
    · subst t0
      have p1 := hm.in f1.1 (by omega)
      have p2 := hm.in f2.1 (by omega)
      have p3 := hm.le f2.1 (by omega) f1.1 (by omega)
      rw [if_pos (show zI 0 = 0 from rfl), rd_in hv'.1 (by omega) (by omega), rd_in hw'.1 (by omega) (by omega), sob, sob, (hG v hv).1, (hG w hw).1]
      refine ah_tail ?_
      rw [zI_le (by omega) (by omega) (by omega) (by omega), p3]
      unfold kyT
      rw [tiT_0, tiT_0]
      omega
    · rw [if_neg (by rw [z_0, zI_eq (by omega) (by omega) (by omega) (by omega)]; exact t0)]
      by_cases t1 : t = 1
      · subst t1
        have p1 := hm.in l1.1 (by omega)
        have p2 := hm.in l2.1 (by omega)
        have p3 := hm.le l1.1 (by omega) l2.1 (by omega)
        rw [if_pos (show zI 1 = 1 from rfl), rd_in hv'.1 (by omega) (by omega), rd_in hw'.1 (by omega) (by omega), sob, sob, (hG v hv).2, (hG w hw).2]
        refine ah_tail ?_
        rw [zI_le (by omega) (by omega) (by omega) (by omega), p3]
        unfold kyT
        rw [tiT_1, tiT_1]
        omega
      · rw [if_neg (by rw [z_1, zI_eq (by omega) (by omega) (by omega) (by omega)]; exact t1)]
        by_cases t2 : t = 2
        · subst t2
          rw [if_pos (show zI 2 = 2 from rfl)]
          refine ah_tail ?_
          rw [zI_le (by omega) (by omega) (by omega) (by omega)]
          unfold kyT
          rw [tiT_2, tiT_2]
          omega
        · rw [if_neg (by rw [z_2, zI_eq (by omega) (by omega) (by omega) (by omega)]; exact t2)]
          refine ah_tail ?_
          rw [zI_le (by omega) (by omega) (by omega) (by omega)]
          unfold kyT
          rw [tiT_3 t0 t1 t2, tiT_3 t0 t1 t2]
          omega
  · rw [if_neg (by rw [zI_eq (by omega) (by omega) (by omega) (by omega)]; exact e)]
    refine ah_tail ?_
    rw [zI_le (by omega) (by omega) (by omega) (by omega)]
    unfold kyT
    omega
theorem cuA_nil {pos : Int → Int} (hm : moT pos) {f g h : Nat → Int32} (hA : Ar f 1000 (fun _ => 0)) : cuA pos [] f g h := ⟨okT_nil, hm, hA.eq (fun _ _ _ => rfl), fun v hv => by cases hv⟩
theorem cuA_push {pos : Int → Int} {R : List Int} {f g h : Nat → Int32} (hc : cuA pos R f g h) {x : Int} (ok : okT (x :: R)) :
    cuA pos (x :: R) (upd f x.toNat (zI (cnT R x + 1))) (if x ∈ R then g else upd g x.toNat (zI (pos R.length))) (upd h x.toNat (zI (pos R.length))) := by
  obtain ⟨ok0, hm, hA, hG⟩ := hc
  have hx := ok.head
  refine ⟨ok, hm, (Ar_wr hA hx.1).eq (fun i h0 h1 => ?_), fun v hv => ?_⟩
  · unfold pt
    simp only [cnT]
    by_cases e : i = x
    · rw [if_pos e, if_pos e, e]; omega
    · rw [if_neg e, if_neg e]; omega
  · have hv' := ok.2 v hv
    by_cases e : v = x
    · subst e
      constructor
      · by_cases r : v ∈ R
        · rw [if_pos r, (hG v r).1]; simp only [fiT, if_pos r]
        · rw [if_neg r, upd_at hx.1 hx.1, if_pos rfl]; simp only [fiT, if_neg r]
      · rw [upd_at hx.1 hx.1, if_pos rfl]; simp only [laT, if_true]
    · have hvR : v ∈ R := by
        rcases List.mem_cons.mp hv with q | q
        · exact absurd q e
        · exact q
      constructor
      · by_cases r : x ∈ R
        · rw [if_pos r, (hG v hvR).1]; simp only [fiT, if_pos hvR]
        · rw [if_neg r, upd_at hx.1 hv'.1, if_neg e, (hG v hvR).1]; simp only [fiT, if_pos hvR]
      · rw [upd_at hx.1 hv'.1, if_neg e, (hG v hvR).2]; simp only [laT, if_neg e]
/-! the class' tally -/
def TalH (t : Int) (R : List Int) (T : TalT) : Prop :=
  cuA (fun i => i) R T.1 T.2.1 T.2.2.1 ∧ (0 ≤ t ∧ t ≤ 3) ∧ Lr T.2.2.2.1 (dsT R) ∧ T.2.2.2.2.1 = zI (dsT R).length ∧ T.2.2.2.2.2.1 = zI R.length ∧ T.2.2.2.2.2.2.1 = zI (bsT t R) ∧ T.2.2.2.2.2.2.2 = zI t
/-- a tally that can be begun anew -/
def TalC (T : TalT) : Prop := ∃ K : List Int, K.length ≤ 120 ∧ T.2.2.2.2.1 = zI K.length ∧ Lr T.2.2.2.1 K ∧ (∀ v ∈ K, 0 ≤ v ∧ v < 1000) ∧ ∀ v, 0 ≤ v → v < 1000 → v ∉ K → T.1 v.toNat = zI 0
theorem TalH.ok {t : Int} {R : List Int} {T : TalT} (h : TalH t R T) : okT R := h.1.1
theorem dsT_120 {R : List Int} (h : okT R) : (dsT R).length ≤ 120 := Nat.le_trans (dsT_len R) h.1
theorem TalH.clean {t : Int} {R : List Int} {T : TalT} (h : TalH t R T) : TalC T := by
  obtain ⟨⟨ok, _, hA, _⟩, _, hL, hk, _⟩ := h
  refine ⟨dsT R, dsT_120 ok, hk, hL, fun v hv => ok.2 v ((mem_dsT R v).mp hv), fun v h0 h1 hv => ?_⟩
  rw [hA v h0 h1, (cnT_0 R v).mpr (fun q => hv ((mem_dsT R v).mpr q))]
theorem X3_begin_L : ∀ (m i n : Nat) (T : TalT) (K : List Int), K.length = i + m → m < n → K.length ≤ 120 → T.2.2.2.2.1 = zI K.length → Lr T.2.2.2.1 K → (∀ v ∈ K, 0 ≤ v ∧ v < 1000) → (∀ v, 0 ≤ v → v < 1000 → v ∉ K.drop i → T.1 v.toNat = zI 0) →
    ∃ T' : TalT, mX3_begin_L2 n (zI (i : Int)) T = some T' ∧ Ar T'.1 1000 (fun _ => 0) ∧ T'.2 = T.2
  | m, i, 0, T, K, _, h, _, _, _, _, _ => absurd h (Nat.not_lt_zero m)
  | 0, i, n + 1, T, K, hl, _, h120, hk, hL, hK, hz => by
    rw [mX3_begin_L2, hk, if_pos (by rw [zI_le (by omega) (by omega) (by omega) (by omega)]; omega)]
    refine ⟨T, rfl, fun v h0 h1 => hz v h0 h1 ?_, rfl⟩
    rw [List.drop_eq_nil_of_le (by omega)]
    exact List.not_mem_nil
  | m + 1, i, n + 1, T, K, hl, hn, h120, hk, hL, hK, hz => by
    have hi : i < K.length := by omega
    have hb := hK K[i] (List.getElem_mem hi)
    rw [mX3_begin_L2, hk, if_neg (by rw [zI_le (by omega) (by omega) (by omega) (by omega)]; omega), rd_L hL hi h120 (by omega), sob, wr_in hb.1 (by omega) (by omega), sob, zI_a1, zI_s, ← hk]
    obtain ⟨T', e1, e2, e3⟩ := X3_begin_L m (i + 1) n (upd T.1 K[i].toNat 0, T.2.1, T.2.2.1, T.2.2.2.1, T.2.2.2.2.1, T.2.2.2.2.2.1, T.2.2.2.2.2.2.1, T.2.2.2.2.2.2.2) K (by omega) (by omega) h120 hk hL hK (fun v h0 h1 hv => by
      show upd T.1 K[i].toNat 0 v.toNat = zI 0
      rw [upd_at hb.1 h0]
      by_cases e : v = K[i]
      · rw [if_pos e]; rfl
      · rw [if_neg e]
        refine hz v h0 h1 (fun q => ?_)
        rw [List.drop_eq_getElem_cons hi] at q
        rcases List.mem_cons.mp q with q | q
        · exact e q
        · exact hv q)
    exact ⟨T', e1, e2, e3⟩
theorem X3_begin_z {T : TalT} (h : TalC T) {t : Int} (ht : 0 ≤ t ∧ t ≤ 3) : ∃ T', mX3_begin T (zI t) = some T' ∧ TalH t [] T' := by
  obtain ⟨K, h1, h2, h3, h4, h5⟩ := h
  obtain ⟨T', e1, e2, e3⟩ := X3_begin_L K.length 0 FU T K (by omega) (by rw [FU_e]; omega) h1 h2 h3 h4 (fun v h0 h1 hv => h5 v h0 h1 (by simpa using hv))
  refine ⟨(T'.1, T'.2.1, T'.2.2.1, T'.2.2.2.1, 0, 0, (-1), zI t), ?_, ?_⟩
  · unfold mX3_begin
    rw [show (0 : Int32) = zI ((0 : Nat) : Int) from rfl, e1]
    rfl
  · exact ⟨cuA_nil moT_id e2, ht, Lr_nil _, rfl, rfl, rfl, rfl⟩
theorem X3_ah {T : TalT} {a b : Int32} : mX3_isAhead T a b = mX6_isAhead T.1 T.2.1 T.2.2.1 a b T.2.2.2.2.2.2.2 := rfl
theorem X3_isAhead_z {t : Int} {R : List Int} {T : TalT} (h : TalH t R T) {v w : Int} (hv : v ∈ R) (hw : w ∈ R) : mX3_isAhead T (zI v) (zI w) = some (if kyT t R w < kyT t R v then 1 else 0) := by
  obtain ⟨hc, ht, _, _, _, _, he⟩ := h
  rw [X3_ah, he]
  exact X6_ah hc ht hv hw
theorem X3_push_z {t : Int} {R : List Int} {T : TalT} (h : TalH t R T) {x : Int} (ok : okT (x :: R)) : ∃ T', mX3_push T (zI x) = some T' ∧ TalH t (x :: R) T' := by
  obtain ⟨hc, ht, hL, hk, hl, hb, he⟩ := h
  have hcp := cuA_push hc ok
  have hx := ok.head
  have c1 := cnT_nn R x
  have ok0 := ok.tail
  have l0 := ok0.1
  have l1 : R.length + 1 ≤ 120 := by have := ok.1; simpa using this
  have hdl := dsT_len R
  have hA := hc.2.2.1
  unfold mX3_push
  rw [rd_A hA hx.1 hx.2 (by omega) (by omega), sob]
  by_cases hR : x ∈ R
  · have hpos := (cnT_pos R x).mpr hR
    have hds : dsT (x :: R) = dsT R := by simp only [dsT, if_pos hR]
    have hne : R ≠ [] := fun z => by rw [z] at hR; cases hR
    have hbm := bsT_mem (t := t) ok0 hne
    have hbn := ok0.2 _ hbm
    rw [if_pos (by rw [z_0, zI_eq (by omega) (by omega) (by omega) (by omega)]; omega), sob, rd_A hA hx.1 hx.2 (by omega) (by omega), sob, zI_a1, wr_in hx.1 (by omega) (by omega), sob, wr_in hx.1 (by omega) (by omega), sob, hb, if_neg (by rw [z_m1, zI_eq (by omega) (by omega) (by omega) (by omega)]; omega)]
    rw [if_pos hR] at hcp
    have hcp' : cuA (fun i => i) (x :: R) (upd T.1 x.toNat (zI (cnT R x + 1))) T.2.1 (upd T.2.2.1 x.toNat T.2.2.2.2.2.1) := by rw [hl]; exact hcp
    rw [X3_ah]
    show ∃ T', ((mX6_isAhead (upd T.1 x.toNat (zI (cnT R x + 1))) T.2.1 (upd T.2.2.1 x.toNat T.2.2.2.2.2.1) (zI x) (zI (bsT t R)) T.2.2.2.2.2.2.2).bind _) = some T' ∧ _
    rw [he, X6_ah hcp' ht List.mem_cons_self (List.mem_cons_of_mem _ hbm), sob, hl, zI_a1, zI_s]
    have hbp := bsT_push (t := t) ok
    rw [if_neg (by omega)] at hbp
    rw [hl] at hcp'
    by_cases c : kyT t (x :: R) (bsT t R) < kyT t (x :: R) x
    · rw [if_pos c] at hbp ⊢
      refine ⟨_, rfl, hcp', ht, ?_, ?_, ?_, ?_, rfl⟩
      · rw [hds]; exact hL
      · rw [hds]; exact hk
      · rfl
      · rw [hbp]
    · rw [if_neg c] at hbp ⊢
      refine ⟨_, rfl, hcp', ht, ?_, ?_, ?_, ?_, rfl⟩
      · rw [hds]; exact hL
      · rw [hds]; exact hk
      · rfl
      · rw [hbp]
  · have hpos := (cnT_0 R x).mpr hR
    have hds : dsT (x :: R) = dsT R ++ [x] := by simp only [dsT, if_neg hR]
    rw [if_neg hR] at hcp
    rw [if_neg (by rw [z_0, zI_eq (by omega) (by omega) (by omega) (by omega)]; omega), wr_in hx.1 (by omega) (by omega), sob, hk, wr_in (by omega) (by omega) (by omega), sob, sob]
    simp only []
    rw [rd_A hA hx.1 hx.2 (by omega) (by omega), sob, zI_a1, wr_in hx.1 (by omega) (by omega), sob, wr_in hx.1 (by omega) (by omega), sob, hb, hl]
    have hLs := Lr_sn hL x
    have hcp' : cuA (fun i => i) (x :: R) (upd T.1 x.toNat (zI (cnT R x + 1))) (upd T.2.1 x.toNat (zI (R.length : Int))) (upd T.2.2.1 x.toNat (zI (R.length : Int))) := hcp
    have hbp := bsT_push (t := t) ok
    by_cases hne : bsT t R = -1
    · rw [if_pos hne] at hbp
      rw [hne, if_pos (show zI (-1) = -1 from rfl), zI_a1, zI_a1, zI_s, zI_s]
      refine ⟨_, rfl, hcp', ht, ?_, ?_, rfl, ?_, he⟩
      · rw [hds]; exact hLs
      · rw [hds, List.length_append]; rfl
      · rw [hbp]
    · have hRn : R ≠ [] := fun z => hne ((bsT_m1 ok0).mpr z)
      have hbm := bsT_mem (t := t) ok0 hRn
      have hbn := ok0.2 _ hbm
      rw [if_neg hne] at hbp
      rw [if_neg (by rw [z_m1, zI_eq (by omega) (by omega) (by omega) (by omega)]; omega), X3_ah]
      show ∃ T', ((mX6_isAhead (upd T.1 x.toNat (zI (cnT R x + 1))) (upd T.2.1 x.toNat (zI (R.length : Int))) (upd T.2.2.1 x.toNat (zI (R.length : Int))) (zI x) (zI (bsT t R)) T.2.2.2.2.2.2.2).bind _) = some T' ∧ _
      rw [he, X6_ah hcp' ht List.mem_cons_self (List.mem_cons_of_mem _ hbm), sob, zI_a1, zI_a1, zI_s, zI_s]
      by_cases c : kyT t (x :: R) (bsT t R) < kyT t (x :: R) x
      · rw [if_pos c] at hbp ⊢
        refine ⟨_, rfl, hcp', ht, ?_, ?_, rfl, ?_, rfl⟩
        · rw [hds]; exact hLs
        · rw [hds, List.length_append]; rfl
        · rw [hbp]
      · rw [if_neg c] at hbp ⊢
        refine ⟨_, rfl, hcp', ht, ?_, ?_, rfl, ?_, rfl⟩
        · rw [hds]; exact hLs
        · rw [hds, List.length_append]; rfl
        · rw [hbp]
