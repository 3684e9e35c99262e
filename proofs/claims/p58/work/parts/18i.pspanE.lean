section
variable {row : RowT} {n : Nat} {l r t : Int} {V G : Int → Int}
set_option maxHeartbeats 400000 in
theorem span_end {f g : Nat → Int32} (hR : Rw row n V G) (hf : Ar f n V) (hg : Ar g n G) (hn : n ≤ 100) (hV : ∀ i : Int, 0 ≤ i → i < n → 0 ≤ V i ∧ V i < 9) (c : 0 ≤ l ∧ l ≤ r ∧ r < n) (ht : 0 ≤ t ∧ t ≤ 3) {cC : Nat → Nat → Int32} (hC : CcH cC (spT V l r) l) {S : List Int} (hS : srT t (spT V l r) S) (hS9 : S.length ≤ 12) (F k : Nat) (x8 x9 : Int) (T : TalT) (w : Nat → Int32) (hk : S.length = k) (hT : TalC T) (hI : hvI t (spT V l r) S (fun x => owT V G x l (r + 1 - l).toNat) k x8 x9) : ∃ T', TalC T' ∧ mL_isSpan_L21 n n (zI t) row f g cC (zI l) (zI r) (zI t) (F + 1) (zI (k : Int)) (zI x8) (zI x9) (zI (k : Int)) T w = some (1, T') := by
  have ok := hC.1.1
  have hsl := srT_len hS
  have hne : (dsT (spT V l r)).length ≠ 0 := fun z => dsT_ne (spT_ne c.2.1) (List.eq_nil_of_length_eq_zero z)
  have h0S : 0 < S.length := by omega
  have ez := ranked_z hC ht hS (i := k) (by omega)
  rw [if_neg (by omega)] at ez
  have e0 := ranked_z hC ht hS (i := 0) (by omega)
  rw [if_pos h0S, sgD h0S, sr_0 ok hS h0S, show zI ((0 : Nat) : Int) = (0 : Int32) from rfl] at e0
  have hbm := bsT_mem (t := t) ok (spT_ne c.2.1)
  have hb := ok.2 _ hbm
  have hb12 := hC.2 _ hbm
  have hnum := hC.num (v := bsT t (spT V l r)) hb.1 hb12
  have hcn := cnT_nn (spT V l r) (bsT t (spT V l r))
  have hlen := spT_len (V := V) (l := l) (r := r) (by omega)
  have hHv : isHv t (spT V l r) (fun x => owT V G x l (r + 1 - l).toNat) x8 ∧ x9 = owT V G x8 l (r + 1 - l).toNat := by
    rcases hI with ⟨z, _⟩ | ⟨z1, z2, z3⟩
    · omega
    · rw [List.take_of_length_le (by omega)] at z1 z3
      exact ⟨⟨(srT_mem hS).mp z1, fun x hx => z3 x ((srT_mem hS).mpr hx)⟩, z2⟩
  rw [mL_isSpan_L21, ez, sob, if_pos (by decide)]
  obtain ⟨T1, h1, e1⟩ := tie_L hR c hC (fun (z9 : TalT) =>
      (mL_ranked cC 0 (zI t)).bind fun q10 =>
      (rx 12 q10).bind fun j11 =>
      (rd (cC j11) 3 0).bind fun v12 =>
      (if (2 * v12) ≤ ((zI r - zI l) + 1) then
        some (-2)
      else
        some q10).bind fun (z13 : Int32) =>
      (mX5_unlike (zI t) row z9 (zI l) (zI r)).bind fun q15 =>
      if ¬ q15.1 = zI (k : Int) then
        some (0, q15.2)
      else
        (mX5_ranked (zI t) row q15.2 (zI l) (zI r) (zI (k : Int)) 0).bind fun q17 =>
        if ¬ q17.1 = (-2) then
          some (0, q17.2)
        else
          (mX5_majority (zI t) row q17.2 (zI l) (zI r)).bind fun q19 =>
          if ¬ q19.1 = z13 then
            some (0, q19.2)
          else
            (mX5_heaviest (zI t) row q19.2 (zI l) (zI r) 0).bind fun q21 =>
            if ¬ q21.1 = zI x8 then
              some (0, q21.2)
            else
              (mX5_heaviest (zI t) row q21.2 (zI l) (zI r) 1).bind fun q23 =>
              if ¬ q23.1 = zI x9 then
                some (0, q23.2)
              else
                some (1, q23.2)) 4 FU 0 T (by rw [FU_e]; omega) (by omega) (by omega) hT
  rw [show zI (0 : Int) = (0 : Int32) from rfl] at e1
  refine Exists.elim (q_unlike hR c ht h1) (fun T2 h2 => ?_)
  refine Exists.elim (q_ranked hR c ht h2.2 hS (k := k) (w := 0) (by omega) (by omega)) (fun T3 h3 => ?_)
  refine Exists.elim (q_majority hR c ht h3.2) (fun T4 h4 => ?_)
  refine Exists.elim (q_heaviest hR c ht h4.2 hHv.1).1 (fun T5 h5 => ?_)
  refine Exists.elim (q_heaviest hR c ht h5.2 hHv.1).2 (fun T6 h6 => ?_)
  have h3e := h3.1
  rw [if_neg (by omega), show zI (0 : Int) = (0 : Int32) from rfl] at h3e
  refine ⟨T6, h6.2, e1.trans ?_⟩
  have emaj : (if (2 * zI (cnT (spT V l r) (bsT t (spT V l r)))) ≤ ((zI r - zI l) + 1) then some (-2 : Int32) else some (zI (bsT t (spT V l r)))) = some (zI (if ((spT V l r).length : Int) < 2 * cnT (spT V l r) (bsT t (spT V l r)) then bsT t (spT V l r) else -2)) := by
    rw [z_2, zI_mul, zI_sub, zI_a1]
    by_cases d : ((spT V l r).length : Int) < 2 * cnT (spT V l r) (bsT t (spT V l r))
    · rw [if_neg (show ¬ zI (2 * cnT (spT V l r) (bsT t (spT V l r))) ≤ zI (r - l + 1) by rw [zI_le (by omega) (by omega) (by omega) (by omega)]; omega), if_pos d]
    · rw [if_pos (show zI (2 * cnT (spT V l r) (bsT t (spT V l r))) ≤ zI (r - l + 1) by rw [zI_le (by omega) (by omega) (by omega) (by omega)]; omega), if_neg d]; rfl
  show ((mL_ranked cC 0 (zI t)).bind _) = _
  rw [e0, sob, rx_in hb.1 (by omega) (by omega), sob, rd3_0, sob, hnum, emaj, sob, h2.1, sob, if_neg (show ¬ ¬ zI ((dsT (spT V l r)).length : Int) = zI (k : Int) by rw [show (dsT (spT V l r)).length = k by omega]; exact not_not_intro rfl), h3e, sob, if_neg (show ¬ ¬ zI (-2) = (-2 : Int32) from not_not_intro rfl), h4.1, sob, if_neg (not_not_intro rfl), h5.1, sob, if_neg (not_not_intro rfl), h6.1, sob, ← hHv.2, if_neg (not_not_intro rfl)]
end
