section
variable {row : RowT} {n : Nat} {l r t : Int} {V G : Int → Int}
theorem due_E (hR : Rw row n V G) (c : 0 ≤ l ∧ l ≤ r ∧ r < n) (ht : 0 ≤ t ∧ t ≤ 3) {S : List Int} (hS : srT t (spT V l r) S) (ok : okT (spT V l r)) {k : Nat} (hk : k < S.length) {w : Nat → Int32} (hw : ∀ j : Int, 0 ≤ j → j < 4 → w j.toNat = zI (tdT (spT V l r) l (S[k]) j)) {K : TalT → Option (Int32 × TalT)} (T : TalT) (hT : TalC T) (hK : ∀ T1, TalC T1 → ∃ T', TalC T' ∧ K T1 = some (1, T')) : ∃ T', TalC T' ∧ mL_isSpan_L143 K (zI t) row w (zI l) (zI r) (zI (k : Int)) FU 0 T = some (1, T') := by
  obtain ⟨T1, h1, e1⟩ := due_L hR c ht hS ok hk hw K 4 FU 0 T (by rw [FU_e]; omega) (by omega) (by omega) hT
  obtain ⟨T2, h2, e2⟩ := hK T1 h1
  exact ⟨T2, h2, e1.trans e2⟩
set_option maxHeartbeats 400000 in
theorem span_step {f g : Nat → Int32} (hR : Rw row n V G) (hf : Ar f n V) (hg : Ar g n G) (hn : n ≤ 100) (hV : ∀ i : Int, 0 ≤ i → i < n → 0 ≤ V i ∧ V i < 9) (c : 0 ≤ l ∧ l ≤ r ∧ r < n) (ht : 0 ≤ t ∧ t ≤ 3) {cC : Nat → Nat → Int32} (hC : CcH cC (spT V l r) l) {S : List Int} (hS : srT t (spT V l r) S) (hS9 : S.length ≤ 12) (F k : Nat) (hkS : k < S.length) (ih : ∀ (y8 y9 : Int) (T : TalT) (w : Nat → Int32), TalC T → hvI t (spT V l r) S (fun x => owT V G x l (r + 1 - l).toNat) (k + 1) y8 y9 → ∃ T', TalC T' ∧ mL_isSpan_L21 n n (zI t) row f g cC (zI l) (zI r) (zI t) F (zI ((k : Int) + 1)) (zI y8) (zI y9) (zI ((k : Int) + 1)) T w = some (1, T')) (x8 x9 : Int) (T : TalT) (w : Nat → Int32) (hT : TalC T) (hI : hvI t (spT V l r) S (fun x => owT V G x l (r + 1 - l).toNat) k x8 x9) : ∃ T', TalC T' ∧ mL_isSpan_L21 n n (zI t) row f g cC (zI l) (zI r) (zI t) (F + 1) (zI (k : Int)) (zI x8) (zI x9) (zI (k : Int)) T w = some (1, T') := by
  have ok := hC.1.1
  have hsl := srT_len hS
  have hvm : S[k] ∈ spT V l r := (srT_mem hS).mp (List.getElem_mem hkS)
  obtain ⟨v, ev⟩ : ∃ v, S[k] = v := ⟨_, rfl⟩
  have hvm' := hvm
  rw [ev] at hvm
  have hvb := ok.2 v hvm
  have hv12 := hC.2 v hvm
  have hv9 : v < 9 := by
    obtain ⟨j, g1, g2, g3⟩ := spT_mem.mp hvm
    rw [← g3]; exact (hV j (by omega) (by omega)).2
  have hnum := hC.num (v := v) hvb.1 hv12
  have h1c : cC v.toNat 1 = zI (l + fiT (spT V l r) v) := by
    rw [← cF_at (cC := cC) (k := 1) (show v.toNat < 12 by omega)]; exact (hC.1.2.2.2 v hvm).1
  have h2c : cC v.toNat 2 = zI (l + laT (spT V l r) v) := by
    rw [← cF_at (cC := cC) (k := 2) (show v.toNat < 12 by omega)]; exact (hC.1.2.2.2 v hvm).2
  have ez := ranked_z hC ht hS (i := k) (by omega)
  rw [if_pos hkS, sgD hkS, ev] at ez
  have hG : ∀ i, 0 ≤ i → i < (n : Int) → 1 ≤ G i ∧ G i ≤ 9 := fun i h0 h1 => (hR.2.2.2.2 i h0 h1).2
  have o1 := owT_nn (V := V) hG v (r + 1 - l).toNat l c.1 (by omega)
  have o2 := owT_nn (V := V) hG x8 (r + 1 - l).toNat l c.1 (by omega)
  have o3 : 1 ≤ owT V G v l (r + 1 - l).toNat := by
    refine owT_pos (V := V) hG v (r + 1 - l).toNat l c.1 (by omega) ?_
    obtain ⟨j, g1, g2, g3⟩ := spT_mem.mp hvm
    exact ⟨j, g1, by omega, g3⟩
  have hsum := spsum_L hf hg hn c.2.2 hV (v := v) (by omega) (r + 1 - l).toNat FU 0 l (by rw [FU_e]; omega) c.1 (by omega)
  rw [Int.zero_add, show zI (0 : Int) = (0 : Int32) from rfl] at hsum
  have hx9 : 0 ≤ x9 ∧ x9 ≤ 1000 := by
    rcases hI with ⟨_, _, z⟩ | ⟨_, z, _⟩
    · omega
    · have : x9 = owT V G x8 l (r + 1 - l).toNat := z
      omega
  obtain ⟨y8, y9, ey, hI2⟩ : ∃ y8 y9, (if zI (owT V G v l (r + 1 - l).toNat) ≤ zI x9 then some (zI x8, zI x9) else some (zI v, zI (owT V G v l (r + 1 - l).toNat))) = some (zI y8, zI y9) ∧ hvI t (spT V l r) S (fun x => owT V G x l (r + 1 - l).toNat) (k + 1) y8 y9 := by
    by_cases d : owT V G v l (r + 1 - l).toNat ≤ x9
    · rw [if_pos (show zI (owT V G v l (r + 1 - l).toNat) ≤ zI x9 by rw [zI_le (by omega) (by omega) (by omega) (by omega)]; exact d)]
      refine ⟨x8, x9, rfl, ?_⟩
      rcases hI with ⟨_, _, z⟩ | ⟨z1, z2, z3⟩
      · omega
      · refine Or.inr ⟨by rw [take_s hkS]; exact List.mem_append_left _ z1, z2, fun x hx => ?_⟩
        rw [take_s hkS] at hx
        rcases List.mem_append.mp hx with hx | hx
        · exact z3 x hx
        · rw [List.mem_singleton.mp hx, ev]
          obtain ⟨i, hi, e⟩ := List.getElem_of_mem z1
          rw [List.length_take] at hi
          rw [List.getElem_take] at e
          have hs := sr_ge hS.2 (show i < k by omega) hkS
          rw [e, ev] at hs
          have z2' : x9 = owT V G x8 l (r + 1 - l).toNat := z2
          show owT V G v l (r + 1 - l).toNat < owT V G x8 l (r + 1 - l).toNat ∨ (owT V G v l (r + 1 - l).toNat = owT V G x8 l (r + 1 - l).toNat ∧ kyT t (spT V l r) v ≤ kyT t (spT V l r) x8)
          by_cases q : owT V G v l (r + 1 - l).toNat < owT V G x8 l (r + 1 - l).toNat
          · exact Or.inl q
          · exact Or.inr ⟨by omega, by omega⟩
    · rw [if_neg (show ¬ zI (owT V G v l (r + 1 - l).toNat) ≤ zI x9 by rw [zI_le (by omega) (by omega) (by omega) (by omega)]; exact d)]
      refine ⟨v, _, rfl, Or.inr ⟨by rw [take_s hkS, ev]; exact List.mem_append_right _ (List.mem_singleton.mpr rfl), rfl, fun x hx => ?_⟩⟩
      rw [take_s hkS] at hx
      rcases List.mem_append.mp hx with hx | hx
      · rcases hI with ⟨z, _⟩ | ⟨z1, z2, z3⟩
        · subst z; simp at hx
        · have z2' : x9 = owT V G x8 l (r + 1 - l).toNat := z2
          have z3' : owT V G x l (r + 1 - l).toNat < owT V G x8 l (r + 1 - l).toNat ∨ (owT V G x l (r + 1 - l).toNat = owT V G x8 l (r + 1 - l).toNat ∧ _) := z3 x hx
          refine Or.inl ?_
          show owT V G x l (r + 1 - l).toNat < owT V G v l (r + 1 - l).toNat
          rcases z3' with z | z <;> omega
      · rw [List.mem_singleton.mp hx, ev]; exact Or.inr ⟨rfl, Int.le_refl _⟩
  have hrx : rx 12 (zI v) = some v.toNat := rx_in hvb.1 (by omega) (by omega)
  have hW : ∀ j : Int, 0 ≤ j → j < 4 → (upd (upd (upd (upd (fun _ => (0 : Int32)) 0 (zI v)) 1 (zI (cnT (spT V l r) v))) 2 (zI (l + fiT (spT V l r) v))) 3 (zI (l + laT (spT V l r) v))) j.toNat = zI (tdT (spT V l r) l (S[k]) j) := fun j h0 h1 => by
    rw [ev]
    rcases (show j = 0 ∨ j = 1 ∨ j = 2 ∨ j = 3 by omega) with rfl | rfl | rfl | rfl <;> rfl
  rw [mL_isSpan_L21, ez, sob, if_neg (show ¬ zI v < 0 by rw [z_0, zI_lt (by omega) (by omega) (by omega) (by omega)]; omega), sob, hsum, sob, ey, sob, wr4_0, sob, hrx, sob, rd3_0, sob, hnum, wr4_1, sob, sob, rd3_1, sob, h1c, wr4_2, sob, sob, rd3_2, sob, h2c, wr4_3, sob]
  refine due_E hR c ht hS ok hkS hW T hT (fun T1 h1 => ?_)
  dsimp only
  obtain ⟨T2, e2, h2⟩ := q_rank hR c ht h1 hvm
  have hrk := srT_rk hS hkS
  rw [ev] at hrk
  rw [hrk] at e2
  rw [e2, sob, if_neg (not_not_intro rfl), q_often hR c hvb, sob, sob, rd3_0, sob, hnum, if_pos rfl, zI_a1]
  exact ih y8 y9 T2 _ h2 hI2
end
