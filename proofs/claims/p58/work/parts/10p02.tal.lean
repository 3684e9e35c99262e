/-! PURE ROWS. A tally: R, what was pushed, the newest first; how often, first, last, unlike ones in their order, the rank of each as a number, the best -/
def cnT : List Int → Int → Int
  | [], _ => 0
  | x :: R, v => (if v = x then 1 else 0) + cnT R v
def fiT : List Int → Int → Int
  | [], _ => 0
  | _ :: R, v => if v ∈ R then fiT R v else R.length
def laT : List Int → Int → Int
  | [], _ => 0
  | x :: R, v => if v = x then R.length else laT R v
def dsT : List Int → List Int
  | [] => []
  | x :: R => if x ∈ R then dsT R else dsT R ++ [x]
theorem cnT_nn : ∀ (R : List Int) (v : Int), 0 ≤ cnT R v ∧ cnT R v ≤ R.length
  | [], v => ⟨Int.le_refl 0, Int.le_refl 0⟩
  | x :: R, v => by
    have h := cnT_nn R v
    simp only [cnT, List.length_cons]
    by_cases e : v = x
    · rw [if_pos e]; omega
    · rw [if_neg e]; omega
theorem cnT_pos : ∀ (R : List Int) (v : Int), 0 < cnT R v ↔ v ∈ R
  | [], v => by simp [cnT]
  | x :: R, v => by
    have h := cnT_nn R v
    have ih := cnT_pos R v
    simp only [cnT, List.mem_cons]
    by_cases e : v = x
    · rw [if_pos e]; simp only [e, true_or, iff_true]; rw [← e]; omega
    · rw [if_neg e]; simp only [e, false_or]; rw [← ih]; omega
theorem cnT_0 (R : List Int) (v : Int) : cnT R v = 0 ↔ v ∉ R := by
  have h := cnT_nn R v
  have ih := cnT_pos R v
  constructor
  · intro e m; have := ih.mpr m; omega
  · intro m
    rcases Int.lt_or_le 0 (cnT R v) with z | z
    · exact absurd (ih.mp z) m
    · omega
theorem fiT_in : ∀ (R : List Int) (v : Int), v ∈ R → 0 ≤ fiT R v ∧ fiT R v < R.length
  | [], v, h => by cases h
  | x :: R, v, h => by
    simp only [fiT, List.length_cons]
    by_cases e : v ∈ R
    · have := fiT_in R v e; rw [if_pos e]; omega
    · rw [if_neg e]; omega
theorem fiT_inj : ∀ (R : List Int) (v w : Int), v ∈ R → w ∈ R → fiT R v = fiT R w → v = w
  | [], v, w, h, _, _ => by cases h
  | x :: R, v, w, h, h2, e => by
    simp only [fiT] at e
    by_cases a : v ∈ R
    · have a1 := fiT_in R v a
      by_cases b : w ∈ R
      · rw [if_pos a, if_pos b] at e; exact fiT_inj R v w a b e
      · rw [if_pos a, if_neg b] at e; omega
    · by_cases b : w ∈ R
      · have b1 := fiT_in R w b
        rw [if_neg a, if_pos b] at e; omega
      · rcases List.mem_cons.mp h with h | h
        · rcases List.mem_cons.mp h2 with h2 | h2
          · rw [h, h2]
          · exact absurd h2 b
        · exact absurd h a
theorem laT_in : ∀ (R : List Int) (v : Int), v ∈ R → 0 ≤ laT R v ∧ laT R v < R.length
  | [], v, h => by cases h
  | x :: R, v, h => by
    simp only [laT, List.length_cons]
    by_cases e : v = x
    · rw [if_pos e]; omega
    · rw [if_neg e]
      rcases List.mem_cons.mp h with h | h
      · exact absurd h e
      · have := laT_in R v h; omega
theorem laT_inj : ∀ (R : List Int) (v w : Int), v ∈ R → w ∈ R → laT R v = laT R w → v = w
  | [], v, w, h, _, _ => by cases h
  | x :: R, v, w, h, h2, e => by
    simp only [laT] at e
    by_cases a : v = x
    · by_cases b : w = x
      · rw [a, b]
      · rcases List.mem_cons.mp h2 with h2 | h2
        · exact absurd h2 b
        · have := laT_in R w h2
          rw [if_pos a, if_neg b] at e; omega
    · rcases List.mem_cons.mp h with h | h
      · exact absurd h a
      · have h1 := laT_in R v h
        by_cases b : w = x
        · rw [if_neg a, if_pos b] at e; omega
        · rcases List.mem_cons.mp h2 with h2 | h2
          · exact absurd h2 b
          · rw [if_neg a, if_neg b] at e; exact laT_inj R v w h h2 e
theorem mem_dsT : ∀ (R : List Int) (v : Int), v ∈ dsT R ↔ v ∈ R
  | [], v => by simp [dsT]
  | x :: R, v => by
    have ih := mem_dsT R v
    simp only [dsT, List.mem_cons]
    by_cases e : x ∈ R
    · rw [if_pos e, ih]
      constructor
      · exact Or.inr
      · rintro (h | h)
        · rw [h]; exact e
        · exact h
    · rw [if_neg e, List.mem_append, ih, List.mem_singleton]
      exact Or.comm
theorem dsT_nd : ∀ (R : List Int), (dsT R).Nodup
  | [] => List.nodup_nil
  | x :: R => by
    have ih := dsT_nd R
    simp only [dsT]
    by_cases e : x ∈ R
    · rw [if_pos e]; exact ih
    · rw [if_neg e, List.nodup_append]
      refine ⟨ih, by simp, fun a ha b hb => ?_⟩
      rw [List.mem_singleton] at hb
      intro hab
      rw [hab, hb] at ha
      exact e ((mem_dsT R x).mp ha)
theorem dsT_len : ∀ (R : List Int), (dsT R).length ≤ R.length
  | [] => Nat.le_refl 0
  | x :: R => by
    have ih := dsT_len R
    simp only [dsT, List.length_cons]
    by_cases e : x ∈ R
    · rw [if_pos e]; omega
    · rw [if_neg e, List.length_append]; simp only [List.length_cons, List.length_nil]; omega
theorem dsT_ne {R : List Int} (h : R ≠ []) : dsT R ≠ [] := by
  intro e
  cases R with
  | nil => exact h rfl
  | cons x R => have := (mem_dsT (x :: R) x).mpr List.mem_cons_self; rw [e] at this; cases this
def okT (R : List Int) : Prop := R.length ≤ 120 ∧ ∀ v ∈ R, 0 ≤ v ∧ v < 1000
theorem okT.tail {x : Int} {R : List Int} (h : okT (x :: R)) : okT R := ⟨by have := h.1; simp only [List.length_cons] at this; omega, fun v hv => h.2 v (List.mem_cons_of_mem _ hv)⟩
theorem okT.head {x : Int} {R : List Int} (h : okT (x :: R)) : 0 ≤ x ∧ x < 1000 := h.2 x List.mem_cons_self
theorem okT_nil : okT [] := ⟨by simp, fun v h => by cases h⟩
/-- the tie's part of the rank's number: 0 first, 1 last, 2 least, else most -/
def tiT (t : Int) (R : List Int) (v : Int) : Int := if t = 0 then 2000 - fiT R v else if t = 1 then laT R v else if t = 2 then 2000 - v else v
def kyT (t : Int) (R : List Int) (v : Int) : Int := cnT R v * 4096 + tiT t R v
theorem tiT_in {R : List Int} (ok : okT R) (t : Int) {v : Int} (h : v ∈ R) : 0 ≤ tiT t R v ∧ tiT t R v ≤ 2000 := by
  have h1 := fiT_in R v h
  have h2 := laT_in R v h
  have h3 := ok.2 v h
  have h4 := ok.1
  unfold tiT
  by_cases a : t = 0
  · rw [if_pos a]; omega
  · rw [if_neg a]
    by_cases b : t = 1
    · rw [if_pos b]; omega
    · rw [if_neg b]
      by_cases c : t = 2
      · rw [if_pos c]; omega
      · rw [if_neg c]; omega
theorem kyT_inj {R : List Int} (ok : okT R) (t : Int) {v w : Int} (h : v ∈ R) (h2 : w ∈ R) (e : kyT t R v = kyT t R w) : v = w := by
  have a := tiT_in ok t h
  have b := tiT_in ok t h2
  unfold kyT at e
  have e2 : tiT t R v = tiT t R w := by omega
  unfold tiT at e2
  by_cases a : t = 0
  · rw [if_pos a, if_pos a] at e2; exact fiT_inj R v w h h2 (by omega)
  · rw [if_neg a, if_neg a] at e2
    by_cases b : t = 1
    · rw [if_pos b, if_pos b] at e2; exact laT_inj R v w h h2 e2
    · rw [if_neg b, if_neg b] at e2
      by_cases c : t = 2
      · rw [if_pos c, if_pos c] at e2; omega
      · rw [if_neg c, if_neg c] at e2; exact e2
theorem kyT_ne (t : Int) {x v : Int} {R : List Int} (h : v ≠ x) (hv : v ∈ R) : kyT t (x :: R) v = kyT t R v := by
  unfold kyT tiT
  simp only [cnT, fiT, laT, if_neg h, if_pos hv, Int.zero_add]
theorem kyT_up {R : List Int} (t : Int) {x : Int} (ok : okT (x :: R)) (hx : x ∈ R) : kyT t R x < kyT t (x :: R) x := by
  have a := tiT_in ok t (List.mem_cons_self (a := x) (l := R))
  have b := tiT_in ok.tail t hx
  unfold kyT
  have c : cnT (x :: R) x = 1 + cnT R x := by simp only [cnT, if_true]
  rw [c]
  omega
def bsF (t : Int) (R : List Int) : List Int → Int → Int
  | [], b => b
  | v :: K, b => bsF t R K (if b = -1 then v else if kyT t R b < kyT t R v then v else b)
def bsT (t : Int) (R : List Int) : Int := bsF t R (dsT R) (-1)
def isB (t : Int) (R : List Int) (b : Int) : Prop := (R = [] ∧ b = -1) ∨ (b ∈ R ∧ ∀ w ∈ R, kyT t R w ≤ kyT t R b)
theorem isB_uq {t : Int} {R : List Int} (ok : okT R) {b c : Int} (h : isB t R b) (h2 : isB t R c) : b = c := by
  rcases h with ⟨h, e⟩ | ⟨h, e⟩
  · rcases h2 with ⟨h2, e2⟩ | ⟨h2, e2⟩
    · rw [e, e2]
    · rw [h] at h2; cases h2
  · rcases h2 with ⟨h2, e2⟩ | ⟨h2, e2⟩
    · rw [h2] at h; cases h
    · exact kyT_inj ok t h h2 (by have := e c h2; have := e2 b h; omega)
theorem bsF_mx (t : Int) (R : List Int) : ∀ (K : List Int) (b : Int), 0 ≤ b → (∀ v ∈ K, 0 ≤ v) → (bsF t R K b = b ∨ bsF t R K b ∈ K) ∧ kyT t R b ≤ kyT t R (bsF t R K b) ∧ ∀ v ∈ K, kyT t R v ≤ kyT t R (bsF t R K b)
  | [], b, _, _ => ⟨Or.inl rfl, Int.le_refl _, fun v h => by cases h⟩
  | v :: K, b, hb, hK => by
    have hv := hK v List.mem_cons_self
    have hK' : ∀ u ∈ K, 0 ≤ u := fun u hu => hK u (List.mem_cons_of_mem _ hu)
    simp only [bsF]
    rw [if_neg (show ¬ b = -1 by omega)]
    by_cases c : kyT t R b < kyT t R v
    · rw [if_pos c]
      obtain ⟨h1, h2, h3⟩ := bsF_mx t R K v hv hK'
      refine ⟨Or.inr ?_, by omega, fun u hu => ?_⟩
      · rcases h1 with h1 | h1
        · rw [h1]; exact List.mem_cons_self
        · exact List.mem_cons_of_mem _ h1
      · rcases List.mem_cons.mp hu with e | e
        · rw [e]; exact h2
        · exact h3 u e
    · rw [if_neg c]
      obtain ⟨h1, h2, h3⟩ := bsF_mx t R K b hb hK'
      refine ⟨?_, h2, fun u hu => ?_⟩
      · rcases h1 with h1 | h1
        · exact Or.inl h1
        · exact Or.inr (List.mem_cons_of_mem _ h1)
      · rcases List.mem_cons.mp hu with e | e
        · rw [e]; omega
        · exact h3 u e
theorem bsT_isB {t : Int} {R : List Int} (ok : okT R) : isB t R (bsT t R) := by
  have hK : ∀ v ∈ dsT R, 0 ≤ v := fun v hv => (ok.2 v ((mem_dsT R v).mp hv)).1
  have hm : ∀ v ∈ R, v ∈ dsT R := fun v hv => (mem_dsT R v).mpr hv
  have hm2 : ∀ v ∈ dsT R, v ∈ R := fun v hv => (mem_dsT R v).mp hv
  unfold bsT
  cases e : dsT R with
  | nil =>
    refine Or.inl ⟨?_, rfl⟩
    cases R with
    | nil => rfl
    | cons x R => have := hm x List.mem_cons_self; rw [e] at this; cases this
  | cons v K =>
    rw [e] at hK hm hm2
    simp only [bsF, if_true]
    obtain ⟨h1, h2, h3⟩ := bsF_mx t R K v (hK v List.mem_cons_self) (fun u hu => hK u (List.mem_cons_of_mem _ hu))
    refine Or.inr ⟨?_, fun w hw => ?_⟩
    · rcases h1 with h1 | h1
      · rw [h1]; exact hm2 v List.mem_cons_self
      · exact hm2 _ (List.mem_cons_of_mem _ h1)
    · rcases List.mem_cons.mp (hm w hw) with q | q
      · rw [q]; exact h2
      · exact h3 w q
theorem bsT_nil (t : Int) : bsT t [] = -1 := rfl
theorem bsT_mem {t : Int} {R : List Int} (ok : okT R) (h : R ≠ []) : bsT t R ∈ R := by
  rcases bsT_isB (t := t) ok with ⟨e, _⟩ | ⟨e, _⟩
  · exact absurd e h
  · exact e
theorem bsT_max {t : Int} {R : List Int} (ok : okT R) {w : Int} (h : w ∈ R) : kyT t R w ≤ kyT t R (bsT t R) := by
  rcases bsT_isB (t := t) ok with ⟨e, _⟩ | ⟨_, e⟩
  · rw [e] at h; cases h
  · exact e w h
theorem bsT_nn {t : Int} {R : List Int} (ok : okT R) (h : R ≠ []) : 0 ≤ bsT t R ∧ bsT t R < 1000 := ok.2 _ (bsT_mem ok h)
theorem bsT_in {t : Int} {R : List Int} (ok : okT R) : -1 ≤ bsT t R ∧ bsT t R < 1000 := by
  by_cases h : R = []
  · rw [h, bsT_nil]; omega
  · have := bsT_nn (t := t) ok h; omega
theorem bsT_m1 {t : Int} {R : List Int} (ok : okT R) : bsT t R = -1 ↔ R = [] := by
  constructor
  · intro h
    refine Classical.byContradiction fun z => ?_
    have := bsT_nn (t := t) ok z; omega
  · intro h; rw [h, bsT_nil]
theorem bsT_push {t : Int} {x : Int} {R : List Int} (ok : okT (x :: R)) : bsT t (x :: R) = if bsT t R = -1 then x else if kyT t (x :: R) (bsT t R) < kyT t (x :: R) x then x else bsT t R := by
  refine isB_uq ok (bsT_isB ok) ?_
  by_cases hR : R = []
  · rw [if_pos ((bsT_m1 ok.tail).mpr hR), hR]
    refine Or.inr ⟨List.mem_cons_self, fun w hw => ?_⟩
    rw [List.mem_singleton.mp hw]; exact Int.le_refl _
  · have hb := bsT_mem (t := t) ok.tail hR
    have hmx : ∀ w ∈ R, kyT t R w ≤ kyT t R (bsT t R) := fun w hw => bsT_max ok.tail hw
    rw [if_neg (fun z => hR ((bsT_m1 ok.tail).mp z))]
    have hw' : ∀ w ∈ R, w ≠ x → kyT t (x :: R) w ≤ kyT t R (bsT t R) := fun w hw hx => by rw [kyT_ne t hx hw]; exact hmx w hw
    have hb' : kyT t R (bsT t R) ≤ kyT t (x :: R) (bsT t R) := by
      by_cases e : bsT t R = x
      · have := kyT_up t ok (by rw [← e]; exact hb); rw [e]; omega
      · rw [kyT_ne t e hb]; exact Int.le_refl _
    by_cases c : kyT t (x :: R) (bsT t R) < kyT t (x :: R) x
    · rw [if_pos c]
      refine Or.inr ⟨List.mem_cons_self, fun w hw => ?_⟩
      by_cases e : w = x
      · rw [e]; exact Int.le_refl _
      · rcases List.mem_cons.mp hw with q | q
        · exact absurd q e
        · have := hw' w q e; omega
    · rw [if_neg c]
      refine Or.inr ⟨List.mem_cons_of_mem _ hb, fun w hw => ?_⟩
      by_cases e : w = x
      · rw [e]; omega
      · rcases List.mem_cons.mp hw with q | q
        · exact absurd q e
        · have := hw' w q e; omega
