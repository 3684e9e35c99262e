/-! PURE ROWS. text: the tokens one behind the other, the lines, the text; both ways -/
/-- the token at hand, both ways: a behind it, p where it begins, s its sort to the reference, x the reference's number -/
def tkR (b6 : FnT) (fe n : Int) (B : Int → Int) (tape : TapT) (a p s : Int) (x : Int32) : Prop :=
  TxB tape.1 b6 fe n B ∧ tape.2.2.1 = zI n ∧ tape.2.2.2.1 = zI a ∧ tape.2.2.2.2.1 = zI p ∧ (0 ≤ p ∧ p ≤ a ∧ a ≤ n) ∧
  ((tape.2.2.2.2.2.1 = 0 ∧ s = 3 ∧ a = n) ∨ (tape.2.2.2.2.2.1 = 1 ∧ s = 0 ∧ p < a ∧ ∃ w, x = zI w ∧ wdR B p a w) ∨ (tape.2.2.2.2.2.1 = 2 ∧ s = 1 ∧ p < a ∧ ∃ m w, tape.2.2.2.2.2.2 = zI m ∧ x = zI w ∧ nmR m w) ∨ (tape.2.2.2.2.2.1 = 3 ∧ s = 2 ∧ p < a) ∨ (tape.2.2.2.2.2.1 = 4 ∧ s = 4 ∧ p < a))
theorem X46_token {b6 : FnT} {fe n a : Int} {B : Int → Int} {tape : TapT} (hX : TxB tape.1 b6 fe n B) (he : tape.2.2.1 = zI n) (ha : tape.2.2.2.1 = zI a) (h0 : 0 ≤ a ∧ a ≤ n) (pl so nu : Int32) :
    ∃ (tape' : TapT) (a' p' s' : Int) (x' : Int32), mX4_advance tape = some tape' ∧ mX6_token b6 (zI n) (zI a) pl so nu = some (zI a', zI p', zI s', x') ∧ tkR b6 fe n B tape' a' p' s' x' ∧ a ≤ p' := by
  have hn := hX.1
  obtain ⟨q, g1, g2, g3, g4, g5⟩ := X46_blank (n - a).toNat FU FU a tape hX (by rw [FU_e]; omega) (by rw [FU_e]; omega) h0.1 (by omega) he ha
  unfold mX4_advance mX6_token
  rw [g1, sob, g2, sob, X6_here_z hX (by omega), sob]
  dsimp only
  by_cases c : q < n
  · have hb := hX.2.2.2 q (by omega) (by omega)
    have hh : heT B n q = B q := by unfold heT; rw [if_pos c]
    rw [if_pos (show zI q < tape.2.2.1 by rw [he, zI_lt (by omega) (by omega) (by omega) (by omega)]; omega), rd_A hX.2.1 (by omega) (by omega) (by omega) (by omega), sob, X4_isLetter_z (by omega), sob, hh, if_pos (show ¬ zI (B q) = -1 by rw [show (-1 : Int32) = zI (-1) from rfl, zI_eq (by omega) (by omega) (by omega) (by omega)]; omega), X6_isSmall_z (by omega), sob, sob, X4_isDigit_z (by omega), sob, X6_isDigit_z (by omega), sob, sob]
    by_cases d : 97 ≤ B q ∧ B q ≤ 122
    · rw [bz_t d, if_neg i1, if_neg i1]
      obtain ⟨z, r1, r2, r3, r4, r5⟩ := X46_word (n - q).toNat FU FU q (tape.1, tape.2.1, tape.2.2.1, zI q, zI q, 1, tape.2.2.2.2.2.2) hX (by rw [FU_e]; omega) (by rw [FU_e]; omega) (by omega) (by omega) he rfl
      obtain ⟨w, w1, w2⟩ := X6_wordHere_z (s := q) (a := z) hX.2.2.1 hX.2.2.2 (by omega) (by omega)
      have hz := r5 c d
      unfold mX4_readWord
      dsimp only at r1 ⊢
      rw [r1, sob, sob, r2, sob, w1, sob]
      exact ⟨_, z, q, 0, zI w, rfl, rfl, ⟨hX, he, rfl, rfl, by omega, Or.inr (Or.inl ⟨rfl, rfl, hz, w, rfl, w2⟩)⟩, by omega⟩
    · rw [bz_f d, if_pos rfl, if_pos rfl]
      by_cases e : 48 ≤ B q ∧ B q ≤ 57
      · rw [bz_t e, if_neg i1, if_neg i1]
        obtain ⟨z, x, y, r1, r2, r3, r4, r5, r6⟩ := X46_num (n - q).toNat FU FU q 0 0 (tape.1, tape.2.1, tape.2.2.1, zI q, zI q, 2, 0) hX (by rw [FU_e]; omega) (by rw [FU_e]; omega) (by omega) (by omega) he rfl rfl (Or.inl (by omega))
        have hz := r6 c e
        unfold mX4_readNumber
        dsimp only at r1 ⊢
        rw [r1, sob, sob, show (0 : Int32) = zI 0 from rfl, r2, sob]
        exact ⟨_, z, q, 1, zI y, rfl, rfl, ⟨hX, he, rfl, rfl, by omega, Or.inr (Or.inr (Or.inl ⟨rfl, rfl, hz, x, y, rfl, rfl, r3⟩))⟩, by omega⟩
      · rw [bz_f e, if_pos rfl, if_pos rfl]
        simp only [zI_a1]
        by_cases k : B q = 59
        · rw [k, if_neg (show ¬ ¬ zI 59 = 59 from not_not_intro rfl), if_neg (show ¬ ¬ zI 59 = 59 from not_not_intro rfl), sob, sob]
          exact ⟨_, q + 1, q, 2, nu, rfl, rfl, ⟨hX, he, rfl, rfl, by omega, Or.inr (Or.inr (Or.inr (Or.inl ⟨rfl, rfl, by omega⟩)))⟩, by omega⟩
        · have h59 : ¬ zI (B q) = 59 := by rw [show (59 : Int32) = zI 59 from rfl, zI_eq (by omega) (by omega) (by omega) (by omega)]; exact k
          rw [if_pos h59, if_pos h59, sob, sob]
          exact ⟨_, q + 1, q, 4, nu, rfl, rfl, ⟨hX, he, rfl, rfl, by omega, Or.inr (Or.inr (Or.inr (Or.inr ⟨rfl, rfl, by omega⟩)))⟩, by omega⟩
  · have hh : heT B n q = -1 := by unfold heT; rw [if_neg c]
    rw [if_neg (show ¬ zI q < tape.2.2.1 by rw [he, zI_lt (by omega) (by omega) (by omega) (by omega)]; omega), hh, if_neg (show ¬ ¬ zI (-1) = -1 from not_not_intro rfl)]
    exact ⟨_, q, q, 3, nu, rfl, rfl, ⟨hX, he, rfl, rfl, by omega, Or.inl ⟨rfl, rfl, by omega⟩⟩, by omega⟩
theorem tkR.adv {b6 : FnT} {fe n a p s : Int} {B : Int → Int} {tape : TapT} {x : Int32} (h : tkR b6 fe n B tape a p s x) :
    ∃ (tape' : TapT) (a' p' s' : Int) (x' : Int32), mX4_advance tape = some tape' ∧ mX6_token b6 (zI n) (zI a) (zI p) (zI s) x = some (zI a', zI p', zI s', x') ∧ tkR b6 fe n B tape' a' p' s' x' ∧ a ≤ p' := X46_token h.1 h.2.1 h.2.2.1 (by have := h.2.2.2.2.1; omega) _ _ _
theorem tkR.num {b6 : FnT} {fe n a p s : Int} {B : Int → Int} {tape : TapT} {x : Int32} (h : tkR b6 fe n B tape a p s x) :
    (tape.2.2.2.2.2.1 = 2 ∧ s = 1 ∧ p < a ∧ ∃ m w, tape.2.2.2.2.2.2 = zI m ∧ x = zI w ∧ nmR m w) ∨ (¬ tape.2.2.2.2.2.1 = 2 ∧ ¬ s = 1 ∧ ¬ zI s = 1) := by
  rcases h.2.2.2.2.2 with ⟨k, e, _⟩ | ⟨k, e, _⟩ | ⟨k, e, r⟩ | ⟨k, e, _⟩ | ⟨k, e, _⟩
  · exact Or.inr ⟨by rw [k]; decide, by omega, by rw [e]; decide⟩
  · exact Or.inr ⟨by rw [k]; decide, by omega, by rw [e]; decide⟩
  · exact Or.inl ⟨k, e, r⟩
  · exact Or.inr ⟨by rw [k]; decide, by omega, by rw [e]; decide⟩
  · exact Or.inr ⟨by rw [k]; decide, by omega, by rw [e]; decide⟩
theorem tkR.semi {b6 : FnT} {fe n a p s : Int} {B : Int → Int} {tape : TapT} {x : Int32} (h : tkR b6 fe n B tape a p s x) :
    (tape.2.2.2.2.2.1 = 3 ∧ s = 2 ∧ p < a) ∨ (¬ tape.2.2.2.2.2.1 = 3 ∧ ¬ s = 2 ∧ ¬ zI s = 2) := by
  rcases h.2.2.2.2.2 with ⟨k, e, _⟩ | ⟨k, e, _⟩ | ⟨k, e, r⟩ | ⟨k, e, r⟩ | ⟨k, e, _⟩
  · exact Or.inr ⟨by rw [k]; decide, by omega, by rw [e]; decide⟩
  · exact Or.inr ⟨by rw [k]; decide, by omega, by rw [e]; decide⟩
  · exact Or.inr ⟨by rw [k]; decide, by omega, by rw [e]; decide⟩
  · exact Or.inl ⟨k, e, r⟩
  · exact Or.inr ⟨by rw [k]; decide, by omega, by rw [e]; decide⟩
theorem tkR.fin {b6 : FnT} {fe n a p s : Int} {B : Int → Int} {tape : TapT} {x : Int32} (h : tkR b6 fe n B tape a p s x) :
    (tape.2.2.2.2.2.1 = 0 ∧ s = 3 ∧ zI s = 3 ∧ a = n) ∨ (¬ tape.2.2.2.2.2.1 = 0 ∧ ¬ s = 3 ∧ ¬ zI s = 3 ∧ p < a) := by
  rcases h.2.2.2.2.2 with ⟨k, e, r⟩ | ⟨k, e, r, _⟩ | ⟨k, e, r, _⟩ | ⟨k, e, r⟩ | ⟨k, e, r⟩
  · exact Or.inl ⟨k, e, by rw [e]; rfl, r⟩
  · exact Or.inr ⟨by rw [k]; decide, by omega, by rw [e]; decide, r⟩
  · exact Or.inr ⟨by rw [k]; decide, by omega, by rw [e]; decide, r⟩
  · exact Or.inr ⟨by rw [k]; decide, by omega, by rw [e]; decide, r⟩
  · exact Or.inr ⟨by rw [k]; decide, by omega, by rw [e]; decide, r⟩
theorem rwC_uq : ∀ i : Nat, i < 8 → ∀ j : Nat, j < 8 → rwC i = rwC j → i = j := by decide +kernel
/-- which word is at hand: -1 none of the eight -/
theorem tkR.wd {b6 : FnT} {fe n a p s : Int} {B : Int → Int} {tape : TapT} {x : Int32} (h : tkR b6 fe n B tape a p s x) :
    ∃ w : Int, -1 ≤ w ∧ w < 8 ∧ ((s = 0 ∧ zI s = 0 ∧ x = zI w) ∨ (¬ zI s = 0 ∧ w = -1)) ∧ ∀ j : Nat, j < 8 → mX4_isWord tape (rwC j) = some (bz (w = j)) := by
  obtain ⟨hX, he, ha, hp, hb, hk⟩ := id h
  rcases hk with ⟨k, e, r⟩ | ⟨k, e, r, w, r2, r3⟩ | ⟨k, e, r⟩ | ⟨k, e, r⟩ | ⟨k, e, r⟩
  · exact ⟨-1, by omega, by omega, Or.inr ⟨by rw [e]; decide, rfl⟩, fun j hj => by rw [X4_isWord_no (by rw [k]; decide), bz_f (by omega)]⟩
  · have hw : -1 ≤ w ∧ w < 8 := by
      rcases r3 with ⟨y, _⟩ | ⟨j, y1, y2, _⟩
      · omega
      · omega
    refine ⟨w, hw.1, hw.2, Or.inl ⟨e, by rw [e]; rfl, r2⟩, fun j hj => ?_⟩
    have hc := (rw_1 j hj).1
    have hn := hX.1
    rcases X4_isWord_z (i := rwC j) (by omega) hX.2.1 hX.2.2.2 (by omega) hp ha k (by omega) with ⟨q1, q2⟩ | ⟨q1, q2⟩
    · rw [q1]
      rcases r3 with ⟨y1, y2⟩ | ⟨i, y1, y2, y3⟩
      · exact absurd q2 (y2 j hj)
      · have := rwC_uq i y1 j hj (wmT_uq (rw_1 i y1).1 hc y3 q2)
        rw [bz_t (by omega)]
    · rw [q1, bz_f]
      intro y
      rcases r3 with ⟨y1, y2⟩ | ⟨i, y1, y2, y3⟩
      · omega
      · have : i = j := by omega
        exact q2 (this ▸ y3)
  · exact ⟨-1, by omega, by omega, Or.inr ⟨by rw [e]; decide, rfl⟩, fun j hj => by rw [X4_isWord_no (by rw [k]; decide), bz_f (by omega)]⟩
  · exact ⟨-1, by omega, by omega, Or.inr ⟨by rw [e]; decide, rfl⟩, fun j hj => by rw [X4_isWord_no (by rw [k]; decide), bz_f (by omega)]⟩
  · exact ⟨-1, by omega, by omega, Or.inr ⟨by rw [e]; decide, rfl⟩, fun j hj => by rw [X4_isWord_no (by rw [k]; decide), bz_f (by omega)]⟩
/-! the reference behind a FAULT, and ahead of one -/
theorem goOn_f {b6 : FnT} {sz at' p s x f : Int32} (h : f ≠ 0) : mX6_goOn b6 sz at' p s x f = some (at', p, s, x) := by
  unfold mX6_goOn
  rw [if_pos h]
theorem goOn_0 {b6 : FnT} {sz at' p s x a1 p1 s1 x1 : Int32} (h : mX6_token b6 sz at' p s x = some (a1, p1, s1, x1)) : mX6_goOn b6 sz at' p s x 0 = some (a1, p1, s1, x1) := by
  unfold mX6_goOn
  rw [if_neg i0n, h, sob]
theorem within_f {b6 : FnT} {sz at' p s x f fp lo hi : Int32} (h : f ≠ 0) : mX6_within b6 sz at' p s x f fp lo hi = some (lo, at', p, s, x, f, fp) := by
  unfold mX6_within
  rw [if_pos h, sob]
  dsimp only
  rw [if_pos h, sob]
  dsimp only
  rw [if_pos h, sob, goOn_f h, sob]
theorem within_kind {b6 : FnT} {sz at' p s x fp lo hi : Int32} (h : ¬ s = 1) : mX6_within b6 sz at' p s x 0 fp lo hi = some (lo, at', p, s, x, 1, p) := by
  unfold mX6_within mX6_wrong
  rw [if_neg i0n, if_neg h, if_pos rfl, sob, sob]
  dsimp only
  rw [if_pos i1, sob]
  dsimp only
  rw [if_pos i1, sob, goOn_f i1, sob]
theorem i2 : ¬ (2 : Int32) = 0 := by decide
theorem i3 : ¬ (3 : Int32) = 0 := by decide
theorem within_no {b6 : FnT} {sz at' p x fp lo hi : Int32} (h : x < lo ∨ ¬ x ≤ hi) : mX6_within b6 sz at' p 1 x 0 fp lo hi = some (lo, at', p, 1, x, 2, p) := by
  unfold mX6_within mX6_wrong
  rw [if_neg i0n, if_pos rfl, sob]
  dsimp only
  rw [if_neg i0n, if_pos rfl, sob]
  by_cases c : x < lo
  · rw [if_pos c, sob]
    dsimp only
    rw [if_pos i2, sob, goOn_f i2, sob]
  · have d : ¬ x ≤ hi := by
      rcases h with h | h
      · exact absurd h c
      · exact h
    rw [if_neg c, if_neg d, sob]
    dsimp only
    rw [if_pos i2, sob, goOn_f i2, sob]
theorem within_ok {b6 : FnT} {sz at' p x fp lo hi a1 p1 s1 x1 : Int32} (h1 : ¬ x < lo) (h2 : x ≤ hi) (h : mX6_token b6 sz at' p 1 x = some (a1, p1, s1, x1)) : mX6_within b6 sz at' p 1 x 0 fp lo hi = some (x, a1, p1, s1, x1, 0, fp) := by
  unfold mX6_within
  rw [if_neg i0n, if_pos rfl, sob]
  dsimp only
  rw [if_neg i0n, if_neg h1, if_pos h2, sob]
  dsimp only
  rw [if_neg i0n, sob, goOn_0 h, sob]
theorem nmR.both {m w lo hi : Int} (h : nmR m w) (hh : hi ≤ 9999) : (m = w ∧ lo ≤ w ∧ w ≤ hi) ∨ (¬ (lo ≤ m ∧ m ≤ hi) ∧ ¬ (lo ≤ w ∧ w ≤ hi)) := by
  rcases h with h | h
  · omega
  · omega
theorem nmR.in {m w : Int} (h : nmR m w) : 0 ≤ m ∧ m ≤ 100000 ∧ 0 ≤ w ∧ w ≤ 99999 := by
  rcases h with h | h
  · omega
  · omega
/-- a number within, both ways -/
theorem num_z {b6 : FnT} {fe n a p s lo hi : Int} {B : Int → Int} {tape : TapT} {x l2 h2 : Int32} (h : tkR b6 fe n B tape a p s x) (el : l2 = zI lo) (eh : h2 = zI hi) (h0 : 0 ≤ lo) (h9 : hi ≤ 9999) (h8 : 0 ≤ hi) (l9 : lo ≤ 9999) (rdr : RdrT) (fp : Int32) :
    (∃ (w : Int) (tape' : TapT) (a' p' s' : Int) (x' : Int32), lo ≤ w ∧ w ≤ hi ∧ tape.2.2.2.2.2.1 = 2 ∧ tape.2.2.2.2.2.2 = zI w ∧ mX1_isNumber rdr tape l2 h2 = some (1, rdr) ∧ mX4_advance tape = some tape' ∧ mX6_within b6 (zI n) (zI a) (zI p) (zI s) x 0 fp l2 h2 = some (zI w, zI a', zI p', zI s', x', 0, fp) ∧ tkR b6 fe n B tape' a' p' s' x' ∧ a ≤ p') ∨
    (∃ f : Int32, f ≠ 0 ∧ mX1_isNumber rdr tape l2 h2 = some (0, rdr.1, rdr.2.1, rdr.2.2.1, f, zI p, rdr.2.2.2.2.2) ∧ mX6_within b6 (zI n) (zI a) (zI p) (zI s) x 0 fp l2 h2 = some (l2, zI a, zI p, zI s, x, f, zI p)) := by
  have hp := h.2.2.2.1
  rcases h.num with ⟨k, e, r, m, w, r1, r2, r3⟩ | ⟨k, e, r⟩
  · have hi3 := r3.in
    have ek : zI s = 1 := by rw [e]; rfl
    rcases r3.both (lo := lo) h9 with ⟨c1, c2, c3⟩ | ⟨c1, c2⟩
    · subst c1
      obtain ⟨t1, a1, p1, s1, x1, e1, e2, e3, e4⟩ := h.adv
      refine Or.inl ⟨m, t1, a1, p1, s1, x1, c2, c3, k, r1, ?_, e1, ?_, e3, e4⟩
      · unfold mX1_isNumber
        rw [if_pos k, r1, el, eh, if_neg (show ¬ zI m < zI lo by rw [zI_lt (by omega) (by omega) (by omega) (by omega)]; omega), if_pos (show zI m ≤ zI hi by rw [zI_le (by omega) (by omega) (by omega) (by omega)]; omega)]
      · rw [ek] at e2 ⊢
        rw [within_ok (by rw [r2, el, zI_lt (by omega) (by omega) (by omega) (by omega)]; omega) (by rw [r2, eh, zI_le (by omega) (by omega) (by omega) (by omega)]; omega) e2, r2]
    · refine Or.inr ⟨2, by decide, ?_, ?_⟩
      · unfold mX1_isNumber mX1_refuse
        rw [if_pos k, r1, el, eh, hp]
        simp (disch := omega) only [zI_lt, zI_le]
        by_cases d : m < lo
        · rw [if_pos d, sob]
        · rw [if_neg d, if_neg (show ¬ m ≤ hi by omega), sob]
      · rw [ek, within_no]
        rw [r2, el, eh, zI_lt (by omega) (by omega) (by omega) (by omega), zI_le (by omega) (by omega) (by omega) (by omega)]
        omega
  · refine Or.inr ⟨1, by decide, ?_, within_kind r⟩
    unfold mX1_isNumber mX1_refuse
    rw [if_neg k, hp, sob]
