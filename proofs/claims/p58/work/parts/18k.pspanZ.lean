section
variable {row : RowT} {n : Nat} {l r t : Int} {V G : Int → Int}
theorem span_L {f g : Nat → Int32} (hR : Rw row n V G) (hf : Ar f n V) (hg : Ar g n G) (hn : n ≤ 100) (hV : ∀ i : Int, 0 ≤ i → i < n → 0 ≤ V i ∧ V i < 9) (c : 0 ≤ l ∧ l ≤ r ∧ r < n) (ht : 0 ≤ t ∧ t ≤ 3) {cC : Nat → Nat → Int32} (hC : CcH cC (spT V l r) l) {S : List Int} (hS : srT t (spT V l r) S) (hS9 : S.length ≤ 12) : ∀ (m F k : Nat) (x8 x9 : Int) (T : TalT) (w : Nat → Int32), S.length = k + m → m < F → TalC T → hvI t (spT V l r) S (fun x => owT V G x l (r + 1 - l).toNat) k x8 x9 →
    ∃ T', TalC T' ∧ mL_isSpan_L21 n n (zI t) row f g cC (zI l) (zI r) (zI t) F (zI (k : Int)) (zI x8) (zI x9) (zI (k : Int)) T w = some (1, T')
  | m, 0, k, x8, x9, T, w, _, h, _, _ => absurd h (Nat.not_lt_zero m)
  | 0, F + 1, k, x8, x9, T, w, hk, _, hT, hI => span_end hR hf hg hn hV c ht hC hS hS9 F k x8 x9 T w (by omega) hT hI
  | m + 1, F + 1, k, x8, x9, T, w, hk, h, hT, hI => span_step hR hf hg hn hV c ht hC hS hS9 F k (by omega) (fun y8 y9 T2 w2 h2 hI2 => span_L hR hf hg hn hV c ht hC hS hS9 m F (k + 1) y8 y9 T2 w2 (by omega) (by omega) h2 hI2) x8 x9 T w hT hI
theorem span_z {f g : Nat → Int32} (hR : Rw row n V G) (hf : Ar f n V) (hg : Ar g n G) (hn : n ≤ 100) (hV : ∀ i : Int, 0 ≤ i → i < n → 0 ≤ V i ∧ V i < 9) (c : 0 ≤ l ∧ l ≤ r ∧ r < n) (ht : 0 ≤ t ∧ t ≤ 3) {T : TalT} (hT : TalC T) : ∃ cC T', mL_counted n f (fun _ _ => 0) (zI l) (zI r) = some cC ∧ TalC T' ∧ mL_isSpan n n (zI t) row T f g cC (zI l) (zI r) (zI t) = some (1, T') := by
  obtain ⟨cC, ec, hC⟩ := counted_z hf hn c.1 (by omega) c.2.2 hV
  obtain ⟨S, hS, h0⟩ := ex_S hR c ht hT
  have hd9 : (dsT (spT V l r)).length ≤ 12 := by
    rw [← (ds_perm hC.1.1 hC.2).length_eq]
    exact Nat.le_trans (List.length_filter_le _ _) (Nat.le_of_eq (rgZ_len 12 0))
  have hsl := srT_len hS
  obtain ⟨T', h1, e1⟩ := span_L hR hf hg hn hV c ht hC hS (by omega) S.length 14 0 (-1) 0 T (fun _ => 0) (by omega) (by omega) hT (Or.inl ⟨rfl, rfl, rfl⟩)
  exact ⟨cC, T', ec, h1, e1⟩
end
