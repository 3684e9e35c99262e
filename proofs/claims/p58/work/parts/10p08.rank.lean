/-! PURE ROWS. Ranks: how many are ahead; the class' sorted kinds, the reference's search -/
def rkT (t : Int) (R : List Int) (v : Int) (K : List Int) : Nat := K.countP (fun w => decide (kyT t R v < kyT t R w))
theorem rkT_cons (t : Int) (R : List Int) (v w : Int) (K : List Int) : rkT t R v (w :: K) = rkT t R v K + if kyT t R v < kyT t R w then 1 else 0 := by
  unfold rkT
  rw [List.countP_cons]
  simp only [decide_eq_true_eq]
theorem rkT_le (t : Int) (R : List Int) (v : Int) (K : List Int) : rkT t R v K ≤ K.length := List.countP_le_length
/-- sorted: the one ahead of all first -/
def srT (t : Int) (R S : List Int) : Prop := S.Perm (dsT R) ∧ S.Pairwise (fun a b => kyT t R b < kyT t R a)
theorem rkT_pw (t : Int) (R : List Int) : ∀ (S : List Int) (i : Nat) (h : i < S.length), S.Pairwise (fun a b => kyT t R b < kyT t R a) → rkT t R S[i] S = i
  | [], i, h, _ => absurd h (Nat.not_lt_zero i)
  | a :: S, 0, h, hp => by
    have hp' := List.pairwise_cons.mp hp
    rw [List.getElem_cons_zero, rkT_cons, if_neg (by omega), Nat.add_zero]
    unfold rkT
    rw [List.countP_eq_zero]
    intro w hw
    have := hp'.1 w hw
    simp only [decide_eq_true_eq]
    omega
  | a :: S, i + 1, h, hp => by
    have hp' := List.pairwise_cons.mp hp
    have hi : i < S.length := by simpa using h
    rw [List.getElem_cons_succ, rkT_cons, rkT_pw t R S i hi hp'.2, if_pos (hp'.1 _ (List.getElem_mem hi))]
theorem srT_rk {t : Int} {R S : List Int} (h : srT t R S) {i : Nat} (hi : i < S.length) : rkT t R S[i] (dsT R) = i := by
  have := rkT_pw t R S i hi h.2
  unfold rkT at this ⊢
  rw [← h.1.countP_eq]; exact this
theorem srT_len {t : Int} {R S : List Int} (h : srT t R S) : S.length = (dsT R).length := h.1.length_eq
theorem srT_mem {t : Int} {R S : List Int} (h : srT t R S) {v : Int} : v ∈ S ↔ v ∈ R := by rw [h.1.mem_iff, mem_dsT]
/-- the first with the rank c; -1 -/
def orT (t : Int) (R : List Int) (c : Int) : List Int → Int
  | [] => -1
  | v :: K => if (rkT t R v (dsT R) : Int) = c then v else orT t R c K
theorem orT_none (t : Int) (R : List Int) (c : Int) : ∀ K : List Int, (∀ v ∈ K, (rkT t R v (dsT R) : Int) ≠ c) → orT t R c K = -1
  | [], _ => rfl
  | v :: K, h => by
    simp only [orT]
    rw [if_neg (h v List.mem_cons_self), orT_none t R c K (fun w hw => h w (List.mem_cons_of_mem _ hw))]
theorem orT_some (t : Int) (R : List Int) (c x : Int) (hx : (rkT t R x (dsT R) : Int) = c) : ∀ K : List Int, x ∈ K → (∀ v ∈ K, (rkT t R v (dsT R) : Int) = c → v = x) → orT t R c K = x
  | [], h, _ => by cases h
  | v :: K, h, hu => by
    simp only [orT]
    by_cases e : (rkT t R v (dsT R) : Int) = c
    · rw [if_pos e]; exact hu v List.mem_cons_self e
    · rw [if_neg e]
      rcases List.mem_cons.mp h with h | h
      · rw [← h] at e; exact absurd hx e
      · exact orT_some t R c x hx K h (fun w hw => hu w (List.mem_cons_of_mem _ hw))
theorem orT_sr {t : Int} {R S : List Int} (h : srT t R S) {i : Nat} (hi : i < S.length) : orT t R (i : Int) (dsT R) = S[i] := by
  refine orT_some t R _ _ (by rw [srT_rk h hi]) _ (h.1.mem_iff.mp (List.getElem_mem hi)) (fun v hv e => ?_)
  obtain ⟨j, hj, ej⟩ := List.mem_iff_getElem.mp (h.1.mem_iff.mpr hv)
  rw [← ej, srT_rk h hj] at e
  have : j = i := by omega
  subst this
  exact ej.symm
theorem orT_out {t : Int} {R S : List Int} (h : srT t R S) {c : Int} (hc : c < 0 ∨ S.length ≤ c) : orT t R c (dsT R) = -1 := by
  refine orT_none t R c _ (fun v hv e => ?_)
  obtain ⟨j, hj, ej⟩ := List.mem_iff_getElem.mp (h.1.mem_iff.mpr hv)
  rw [← ej, srT_rk h hj] at e
  omega
/-! the reference's search -/
theorem X6_rank_L {pos : Int → Int} {t : Int} {R : List Int} {z : CuT} (h : CuH pos R z) (ht : 0 ≤ t ∧ t ≤ 3) {v : Int} (hv : v ∈ R) : ∀ (m i f : Nat) (c : Int), (dsT R).length = i + m → m < f → mX6_rankOf_L5 z.1 z.2.1 z.2.2.1 z.2.2.2.1 z.2.2.2.2 (zI v) (zI t) f (zI c) (zI (i : Int)) = some (zI (c + rkT t R v ((dsT R).drop i)))
  | m, i, 0, c, _, h => absurd h (Nat.not_lt_zero m)
  | 0, i, f + 1, c, hl, _ => by
    have h120 := dsT_120 h.ok
    rw [mX6_rankOf_L5, h.2.2, if_pos (by rw [zI_le (by omega) (by omega) (by omega) (by omega)]; omega), List.drop_eq_nil_of_le (by omega)]
    show some (zI c) = some (zI (c + 0))
    rw [Int.add_zero]
  | m + 1, i, f + 1, c, hl, hm => by
    have h120 := dsT_120 h.ok
    have hi : i < (dsT R).length := by omega
    have hx : (dsT R)[i] ∈ R := (mem_dsT R _).mp (List.getElem_mem hi)
    have hbx := h.ok.2 _ hx
    have hbv := h.ok.2 _ hv
    rw [mX6_rankOf_L5, if_neg (show ¬ z.2.2.2.2 ≤ zI (i : Int) by rw [h.2.2, zI_le (by omega) (by omega) (by omega) (by omega)]; omega), rd_L h.2.1 hi h120 (by omega), sob, sob, zI_a1, zI_s, zI_a0, zI_a1, X6_ah h.1 ht hx hv, sob, List.drop_eq_getElem_cons hi, rkT_cons]
    by_cases c0 : (dsT R)[i] = v
    · rw [if_pos (by rw [c0]), X6_rank_L h ht hv m (i + 1) f c (by omega) (by omega), if_neg (by rw [c0]; omega)]
      rfl
    · rw [if_neg (by rw [zI_eq (by omega) (by omega) (by omega) (by omega)]; exact c0)]
      by_cases d : kyT t R v < kyT t R (dsT R)[i]
      · rw [if_pos d, if_pos d, if_neg i1, X6_rank_L h ht hv m (i + 1) f _ (by omega) (by omega)]
        congr 2; omega
      · rw [if_neg d, if_neg d, if_pos rfl, X6_rank_L h ht hv m (i + 1) f _ (by omega) (by omega)]
        rfl
theorem X6_rankOf_z {pos : Int → Int} {t : Int} {R : List Int} {z : CuT} (h : CuH pos R z) (ht : 0 ≤ t ∧ t ≤ 3) {v : Int} (hv : v ∈ R) : mX6_rankOf z.1 z.2.1 z.2.2.1 z.2.2.2.1 z.2.2.2.2 (zI v) (zI t) = some (zI (rkT t R v (dsT R))) := by
  have h120 := dsT_120 h.ok
  unfold mX6_rankOf
  have e := X6_rank_L h ht hv (dsT R).length 0 FU 0 (by omega) (by rw [FU_e]; omega)
  rw [show (0 : Int32) = zI ((0 : Nat) : Int) from rfl, show zI ((0 : Nat) : Int) = zI 0 from rfl] at *
  rw [e, sob, List.drop_zero, Int.zero_add]
theorem X6_ofRank_L {pos : Int → Int} {t : Int} {R : List Int} {z : CuT} (h : CuH pos R z) (ht : 0 ≤ t ∧ t ≤ 3) {c : Int} (hc : -2147483648 ≤ c ∧ c < 2147483648) : ∀ (m i f : Nat), (dsT R).length = i + m → m < f → mX6_ofRank_L2 z.1 z.2.1 z.2.2.1 z.2.2.2.1 z.2.2.2.2 (zI c) (zI t) f (zI (i : Int)) = some (zI (orT t R c ((dsT R).drop i)))
  | m, i, 0, _, h => absurd h (Nat.not_lt_zero m)
  | 0, i, f + 1, hl, _ => by
    have h120 := dsT_120 h.ok
    rw [mX6_ofRank_L2, h.2.2, if_pos (by rw [zI_le (by omega) (by omega) (by omega) (by omega)]; omega), List.drop_eq_nil_of_le (by omega)]
    rfl
  | m + 1, i, f + 1, hl, hm => by
    have h120 := dsT_120 h.ok
    have hi : i < (dsT R).length := by omega
    have hx : (dsT R)[i] ∈ R := (mem_dsT R _).mp (List.getElem_mem hi)
    have hr := rkT_le t R (dsT R)[i] (dsT R)
    rw [mX6_ofRank_L2, if_neg (show ¬ z.2.2.2.2 ≤ zI (i : Int) by rw [h.2.2, zI_le (by omega) (by omega) (by omega) (by omega)]; omega), rd_L h.2.1 hi h120 (by omega), sob, sob, zI_a1, zI_s, X6_rankOf_z h ht hx, sob, List.drop_eq_getElem_cons hi]
    simp only [orT]
    simp (disch := omega) only [zI_eq]
    by_cases d : (rkT t R (dsT R)[i] (dsT R) : Int) = c
    · rw [if_neg (not_not_intro d), if_pos d]
    · rw [if_pos d, if_neg d, X6_ofRank_L h ht hc m (i + 1) f (by omega) (by omega)]
theorem X6_ofRank_z {pos : Int → Int} {t : Int} {R : List Int} {z : CuT} (h : CuH pos R z) (ht : 0 ≤ t ∧ t ≤ 3) {c : Int} (hc : -2147483648 ≤ c ∧ c < 2147483648) : mX6_ofRank z.1 z.2.1 z.2.2.1 z.2.2.2.1 z.2.2.2.2 (zI c) (zI t) = some (zI (orT t R c (dsT R))) := by
  have h120 := dsT_120 h.ok
  unfold mX6_ofRank
  rw [show (0 : Int32) = zI ((0 : Nat) : Int) from rfl, X6_ofRank_L h ht hc (dsT R).length 0 FU (by omega) (by rw [FU_e]; omega), List.drop_zero]
/-! the class: rank, and the kinds in order -/
theorem X5_rank_L {t : Int} {R : List Int} {T : TalT} (h : TalH t R T) {v : Int} (hv : v ∈ R) : ∀ (m i f : Nat) (c : Int), (dsT R).length = i + m → m < f → mX5_rank_L48 T (zI v) f (zI c) (zI (i : Int)) = some (zI (c + rkT t R v ((dsT R).drop i)))
  | m, i, 0, c, _, h => absurd h (Nat.not_lt_zero m)
  | 0, i, f + 1, c, hl, _ => by
    have h120 := dsT_120 h.ok
    rw [mX5_rank_L48, h.kinds, if_pos (by rw [zI_le (by omega) (by omega) (by omega) (by omega)]; omega), List.drop_eq_nil_of_le (by omega)]
    show some (zI c) = some (zI (c + 0))
    rw [Int.add_zero]
  | m + 1, i, f + 1, c, hl, hm => by
    have h120 := dsT_120 h.ok
    have hi : i < (dsT R).length := by omega
    have hx : (dsT R)[i] ∈ R := (mem_dsT R _).mp (List.getElem_mem hi)
    rw [mX5_rank_L48, if_neg (show ¬ T.2.2.2.2.1 ≤ zI (i : Int) by rw [h.kinds, zI_le (by omega) (by omega) (by omega) (by omega)]; omega), rd_L h.kind hi h120 (by omega), sob, zI_a1, zI_s, zI_a1, X3_isAhead_z h hx hv, sob, List.drop_eq_getElem_cons hi, rkT_cons]
    by_cases d : kyT t R v < kyT t R (dsT R)[i]
    · rw [if_pos d, if_pos d, if_neg i1, X5_rank_L h hv m (i + 1) f _ (by omega) (by omega)]
      congr 2; omega
    · rw [if_neg d, if_neg d, if_pos rfl, X5_rank_L h hv m (i + 1) f _ (by omega) (by omega)]
      rfl
/-- K: the kinds as they stand, m of them -/
def odI (R : List Int) (m : Nat) (K : Nat → Int) : Prop := (∀ j, j < m → K j ∈ R) ∧ (∀ a b, a < m → b < m → K a = K b → a = b) ∧ ∀ u ∈ R, ∃ j, j < m ∧ K j = u
def swN (K : Nat → Int) (k : Nat) : Nat → Int := fun j => if j = k then K (k + 1) else if j = k + 1 then K k else K j
theorem swN_0 (K : Nat → Int) (k : Nat) : swN K k k = K (k + 1) := by simp [swN]
theorem swN_1 (K : Nat → Int) (k : Nat) : swN K k (k + 1) = K k := by simp [swN]
theorem swN_ne (K : Nat → Int) {k j : Nat} (h : j ≠ k) (h2 : j ≠ k + 1) : swN K k j = K j := by simp [swN, h, h2]
theorem odI_sw {R : List Int} {m : Nat} {K : Nat → Int} (h : odI R m K) {k : Nat} (hk : k + 1 < m) : odI R m (swN K k) := by
  obtain ⟨h1, h2, h3⟩ := h
  have hs : ∀ j, j < m → ∃ i, i < m ∧ swN K k j = K i ∧ ((j = k ∧ i = k + 1) ∨ (j = k + 1 ∧ i = k) ∨ (j ≠ k ∧ j ≠ k + 1 ∧ i = j)) := by
    intro j hj
    by_cases a : j = k
    · exact ⟨k + 1, hk, by rw [a, swN_0], Or.inl ⟨a, rfl⟩⟩
    · by_cases b : j = k + 1
      · exact ⟨k, by omega, by rw [b, swN_1], Or.inr (Or.inl ⟨b, rfl⟩)⟩
      · exact ⟨j, hj, swN_ne K a b, Or.inr (Or.inr ⟨a, b, rfl⟩)⟩
  refine ⟨fun j hj => ?_, fun a b ha hb e => ?_, fun u hu => ?_⟩
  · obtain ⟨i, hi, e, _⟩ := hs j hj
    rw [e]; exact h1 i hi
  · obtain ⟨i, hi, e1, d1⟩ := hs a ha
    obtain ⟨j, hj, e2, d2⟩ := hs b hb
    rw [e1, e2] at e
    have := h2 i j hi hj e
    omega
  · obtain ⟨j, hj, e⟩ := h3 u hu
    by_cases a : j = k
    · exact ⟨k + 1, hk, by rw [swN_1, ← a, e]⟩
    · by_cases b : j = k + 1
      · exact ⟨k, by omega, by rw [swN_0, ← b, e]⟩
      · exact ⟨j, hj, by rw [swN_ne K a b, e]⟩
theorem X3_ord_I {t : Int} {R : List Int} (ht : 0 ≤ t ∧ t ≤ 3) {m i : Nat} {v : Int} (hm : m ≤ 120) (him : i < m) : ∀ (k f : Nat) (T : TalT) (K : Nat → Int), k < f → k ≤ i → cuA (fun i => i) R T.1 T.2.1 T.2.2.1 → T.2.2.2.2.2.2.2 = zI t → (∀ j, j < m → j ≠ k → T.2.2.2.1 j = zI (K j)) → odI R m K → K k = v → (∀ a b, a < b → b ≤ i → a ≠ k → b ≠ k → kyT t R (K b) < kyT t R (K a)) → (∀ b, k < b → b ≤ i → kyT t R (K b) < kyT t R v) →
    ∃ (k' : Nat) (kd : Nat → Int32) (K' : Nat → Int), mX3_order_L19 (zI v) f (zI (k : Int)) T = some (zI (k' : Int), (T.1, T.2.1, T.2.2.1, kd, T.2.2.2.2)) ∧ k' ≤ i ∧ (∀ j, j < m → j ≠ k' → kd j = zI (K' j)) ∧ odI R m K' ∧ K' k' = v ∧ (∀ a b, a < b → b ≤ i → kyT t R (K' b) < kyT t R (K' a))
  | k, 0, T, K, h, _, _, _, _, _, _, _, _ => absurd h (Nat.not_lt_zero k)
  | 0, f + 1, T, K, _, hki, hc, he, hK, hod, hkv, hs, hs2 => by
    rw [mX3_order_L19, if_pos (show zI ((0 : Nat) : Int) ≤ 0 by rw [z_0, zI_le (by omega) (by omega) (by omega) (by omega)]; omega)]
    refine ⟨0, T.2.2.2.1, K, rfl, by omega, hK, hod, hkv, fun a b hab hb => ?_⟩
    by_cases a0 : a = 0
    · rw [a0, hkv]; exact hs2 b (by omega) hb
    · exact hs a b hab hb a0 (by omega)
  | k + 1, f + 1, T, K, h, hki, hc, he, hK, hod, hkv, hs, hs2 => by
    have hkm : K k ∈ R := hod.1 k (by omega)
    have hvm : v ∈ R := by rw [← hkv]; exact hod.1 (k + 1) (by omega)
    have hah : mX3_isAhead T (zI v) (zI (K k)) = some (if kyT t R (K k) < kyT t R v then 1 else 0) := by rw [X3_ah, he]; exact X6_ah hc ht hvm hkm
    have hrd : rd T.2.2.2.1 120 (zI ((k + 1 : Nat) : Int) - 1) = some (zI (K k)) := by
      rw [zI_m1, rd_in (by omega) (by omega) (by omega), show (((k + 1 : Nat) : Int) - 1).toNat = k by omega, hK k (by omega) (by omega)]
    rw [mX3_order_L19, if_neg (show ¬ zI ((k + 1 : Nat) : Int) ≤ 0 by rw [z_0, zI_le (by omega) (by omega) (by omega) (by omega)]; omega), hrd, sob, hah, sob, sob]
    by_cases d : kyT t R (K k) < kyT t R v
    · rw [if_pos d, if_neg i1, wr_in (by omega) (by omega) (by omega), sob, zI_d1, show ((k + 1 : Nat) : Int) - 1 = (k : Int) by omega, show (((k + 1 : Nat) : Int)).toNat = k + 1 by omega]
      obtain ⟨k', kd, K', q1, q2, q3, q4, q5, q6⟩ := X3_ord_I ht hm him k f (T.1, T.2.1, T.2.2.1, upd T.2.2.2.1 (k + 1) (zI (K k)), T.2.2.2.2) (swN K k) (by omega) (by omega) hc he (fun j hj hjk => by
        show upd T.2.2.2.1 (k + 1) (zI (K k)) j = _
        unfold upd
        by_cases e : j = k + 1
        · rw [if_pos e, e, swN_1]
        · rw [if_neg e, swN_ne K hjk e, hK j hj e]) (odI_sw hod (by omega)) (by rw [swN_0, hkv]) (fun a b hab hb ha hbk => by
        by_cases a1 : a = k + 1
        · rw [a1, swN_1, swN_ne K hbk (by omega)]; exact hs k b (by omega) hb (by omega) (by omega)
        · by_cases b1 : b = k + 1
          · rw [b1, swN_1, swN_ne K ha a1]; exact hs a k (by omega) (by omega) (by omega) (by omega)
          · rw [swN_ne K ha a1, swN_ne K hbk b1]; exact hs a b hab hb a1 b1) (fun b hkb hb => by
        by_cases b1 : b = k + 1
        · rw [b1, swN_1]; exact d
        · rw [swN_ne K (by omega) b1]; exact hs2 b (by omega) hb)
      exact ⟨k', kd, K', q1, q2, q3, q4, q5, q6⟩
    · rw [if_neg d, if_pos rfl]
      have hlt : kyT t R v < kyT t R (K k) := by
        rcases Int.lt_or_le (kyT t R v) (kyT t R (K k)) with y | y
        · exact y
        · have e := kyT_inj hc.1 t hkm hvm (by omega)
          have := hod.2.1 k (k + 1) (by omega) (by omega) (by rw [hkv]; exact e)
          omega
      refine ⟨k + 1, T.2.2.2.1, K, rfl, hki, hK, hod, hkv, fun a b hab hb => ?_⟩
      by_cases a1 : a = k + 1
      · rw [a1, hkv]; exact hs2 b (by omega) hb
      · by_cases b1 : b = k + 1
        · rw [b1, hkv]
          by_cases ak : a = k
          · rw [ak]; exact hlt
          · have := hs a k (by omega) (by omega) (by omega) (by omega); omega
        · exact hs a b hab hb a1 b1
theorem X3_ord_O {t : Int} {R : List Int} (ht : 0 ≤ t ∧ t ≤ 3) {m : Nat} (hm : m ≤ 120) : ∀ (d i f : Nat) (T : TalT) (K : Nat → Int), d < f → m ≤ i + d → i ≤ 121 → cuA (fun i => i) R T.1 T.2.1 T.2.2.1 → T.2.2.2.2.1 = zI (m : Int) → T.2.2.2.2.2.2.2 = zI t → (∀ j, j < m → T.2.2.2.1 j = zI (K j)) → odI R m K → (∀ a b, a < b → b < i → b < m → kyT t R (K b) < kyT t R (K a)) →
    ∃ (kd : Nat → Int32) (K' : Nat → Int), mX3_order_L2 f (zI (i : Int)) T = some (T.1, T.2.1, T.2.2.1, kd, T.2.2.2.2) ∧ (∀ j, j < m → kd j = zI (K' j)) ∧ odI R m K' ∧ (∀ a b, a < b → b < m → kyT t R (K' b) < kyT t R (K' a))
  | d, i, 0, T, K, h, _, _, _, _, _, _, _, _ => absurd h (Nat.not_lt_zero d)
  | 0, i, f + 1, T, K, _, hmi, hi, hc, hk, he, hK, hod, hs => by
    rw [mX3_order_L2, if_pos (show T.2.2.2.2.1 ≤ zI (i : Int) by rw [hk, zI_le (by omega) (by omega) (by omega) (by omega)]; omega)]
    exact ⟨T.2.2.2.1, K, rfl, hK, hod, fun a b hab hb => hs a b hab (by omega) hb⟩
  | d + 1, i, f + 1, T, K, h, hmi, hi, hc, hk, he, hK, hod, hs => by
    by_cases g : m ≤ i
    · rw [mX3_order_L2, if_pos (show T.2.2.2.2.1 ≤ zI (i : Int) by rw [hk, zI_le (by omega) (by omega) (by omega) (by omega)]; omega)]
      exact ⟨T.2.2.2.1, K, rfl, hK, hod, fun a b hab hb => hs a b hab (by omega) hb⟩
    · rw [mX3_order_L2, if_neg (show ¬ T.2.2.2.2.1 ≤ zI (i : Int) by rw [hk, zI_le (by omega) (by omega) (by omega) (by omega)]; omega), rd_in (by omega) (by omega) (by omega), Int.toNat_natCast, hK i (by omega), sob]
      obtain ⟨k', kd, K', q1, q2, q3, q4, q5, q6⟩ := X3_ord_I (v := K i) ht hm (show i < m by omega) i FU T K (by rw [FU_e]; omega) (by omega) hc he (fun j hj _ => hK j hj) hod rfl (fun a b hab hb ha hbi => hs a b hab (by omega) (by omega)) (fun b h1 h2 => by omega)
      rw [q1, sob]
      show ∃ (kd2 : Nat → Int32) (K2 : Nat → Int), ((wr kd 120 (zI (k' : Int)) (zI (K i))).bind _) = _ ∧ _
      rw [wr_in (by omega) (by omega) (by omega), sob, zI_a1, zI_s, Int.toNat_natCast]
      obtain ⟨kd2, K2, r1, r2, r3, r4⟩ := X3_ord_O ht hm d (i + 1) f (T.1, T.2.1, T.2.2.1, upd kd k' (zI (K i)), T.2.2.2.2) K' (by omega) (by omega) (by omega) hc hk he (fun j hj => by
        show upd kd k' (zI (K i)) j = _
        unfold upd
        by_cases e : j = k'
        · rw [if_pos e, e, q5]
        · rw [if_neg e, q3 j hj e]) q4 (fun a b hab hb _ => q6 a b hab (by omega))
      exact ⟨kd2, K2, r1, r2, r3, r4⟩
/-- the tally in order: S, its kinds -/
def TalO (t : Int) (R S : List Int) (T : TalT) : Prop := cuA (fun i => i) R T.1 T.2.1 T.2.2.1 ∧ srT t R S ∧ Lr T.2.2.2.1 S ∧ T.2.2.2.2.1 = zI S.length
def kdF (R : List Int) (j : Nat) : Int := (dsT R).getD j 0
theorem kdF_at {R : List Int} {j : Nat} (hj : j < (dsT R).length) : kdF R j = (dsT R)[j] := by
  unfold kdF
  rw [List.getD_eq_getElem?_getD, List.getElem?_eq_getElem hj]; rfl
theorem X3_order_z {t : Int} {R : List Int} {T : TalT} (h : TalH t R T) : ∃ T' S, mX3_order T = some T' ∧ TalO t R S T' := by
  obtain ⟨hc, ht, hL, hk, hl, hb, he⟩ := id h
  have h120 := dsT_120 h.ok
  have hod : odI R (dsT R).length (kdF R) := by
    refine ⟨fun j hj => by rw [kdF_at hj]; exact (mem_dsT R _).mp (List.getElem_mem hj), fun a b ha hb e => ?_, fun u hu => ?_⟩
    · rw [kdF_at ha, kdF_at hb] at e
      have hnd := dsT_nd R
      rw [List.nodup_iff_pairwise_ne, List.pairwise_iff_getElem] at hnd
      rcases Nat.lt_trichotomy a b with y | y | y
      · exact absurd e (hnd a b ha hb y)
      · exact y
      · exact absurd e.symm (hnd b a hb ha y)
    · obtain ⟨j, hj, e⟩ := List.mem_iff_getElem.mp ((mem_dsT R u).mpr hu)
      exact ⟨j, hj, by rw [kdF_at hj, e]⟩
  obtain ⟨kd, K, q1, q2, q3, q4⟩ := X3_ord_O ht h120 (dsT R).length 1 FU T (kdF R) (by rw [FU_e]; omega) (by omega) (by omega) hc hk he (fun j hj => by
    rw [hL j hj, kdF_at hj]) hod (fun a b hab hb => by omega)
  have hlen : ((List.range (dsT R).length).map K).length = (dsT R).length := by simp
  have hget : ∀ (i : Nat) (hi : i < ((List.range (dsT R).length).map K).length), ((List.range (dsT R).length).map K)[i] = K i := fun i hi => by simp
  refine ⟨(T.1, T.2.1, T.2.2.1, kd, T.2.2.2.2), (List.range (dsT R).length).map K, ?_, hc, ⟨?_, ?_⟩, ?_, ?_⟩
  · unfold mX3_order
    rw [show (1 : Int32) = zI ((1 : Nat) : Int) from rfl, q1, sob]
  · refine (List.perm_ext_iff_of_nodup ?_ (dsT_nd R)).mpr (fun u => ?_)
    · rw [List.nodup_iff_pairwise_ne, List.pairwise_iff_getElem]
      intro i j hi hj hij
      rw [hget i hi, hget j hj]
      intro e
      have := q3.2.1 i j (by omega) (by omega) e
      omega
    · rw [mem_dsT, List.mem_map]
      constructor
      · rintro ⟨j, hj, e⟩
        rw [← e]; exact q3.1 j (List.mem_range.mp hj)
      · intro hu
        obtain ⟨j, hj, e⟩ := q3.2.2 u hu
        exact ⟨j, List.mem_range.mpr hj, e⟩
  · rw [List.pairwise_iff_getElem]
    intro i j hi hj hij
    rw [hget i hi, hget j hj]
    exact q4 i j hij (by omega)
  · intro i hi
    rw [hget i hi]
    exact q2 i (by omega)
  · rw [hlen]; exact hk
theorem TalO.clean {t : Int} {R S : List Int} {T : TalT} (h : TalO t R S T) : TalC T := by
  obtain ⟨⟨ok, _, hA, _⟩, hs, hL, hk⟩ := h
  have := srT_len hs
  have := dsT_120 ok
  refine ⟨S, by omega, hk, hL, fun v hv => ok.2 v ((srT_mem hs).mp hv), fun v h0 h1 hv => ?_⟩
  rw [hA v h0 h1, (cnT_0 R v).mpr (fun q => hv ((srT_mem hs).mpr q))]
