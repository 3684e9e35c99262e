/-! models of the law's own methods -/
def nw (n : Int32) : Option Unit := if n < 0 ∨ 200 < n.toNatClampNeg then none else some ()
theorem e_nw {α : Type} {n : Int32} {k : Unit → Option α} {r : α} (h : (nw n).bind k = some r) : (¬ n < 0 ∧ n.toNatClampNeg ≤ 200) ∧ k () = some r := by
  unfold nw at h
  by_cases c : n < 0 ∨ 200 < n.toNatClampNeg
  · rw [if_pos c] at h; simp at h
  · rw [if_neg c] at h; exact ⟨⟨fun z => c (Or.inl z), by omega⟩, h⟩
def mL_cell (xs : Nat → Int32) (nS : Nat)  (x1 : Int32) : Option (Int32) :=
  if (nI nS) ≤ x1 then
    some 0
  else
    (rd xs nS x1).bind fun v2 =>
    some v2
def mL_in  (x0 : Int32) (x1 : Int32) : Option (Int32) :=
  (irm (x0 &&& 2147483647) x1).bind fun v1 =>
  some v1
def mL_many (xs : Nat → Int32) (nS : Nat)   : Option (Int32) :=
  (mL_cell xs nS 0).bind fun q1 =>
  (mL_in q1 18).bind fun q2 =>
  some (3 + q2)
def mL_block (xs : Nat → Int32) (nS : Nat)   : Option (Int32) :=
  (mL_cell xs nS 0).bind fun q1 =>
  (idv q1 32).bind fun v2 =>
  (mL_in v2 5).bind fun q3 =>
  some (2 + q3)
def mL_ties (xs : Nat → Int32) (nS : Nat)   : Option (Int32) :=
  (mL_cell xs nS 0).bind fun q1 =>
  (idv q1 256).bind fun v2 =>
  (mL_in v2 4).bind fun q3 =>
  some q3
def mL_kinds (xs : Nat → Int32) (nS : Nat)   : Option (Int32) :=
  (mL_cell xs nS 0).bind fun q1 =>
  (idv q1 1024).bind fun v2 =>
  (mL_in v2 6).bind fun q3 =>
  some (2 + q3)
def mL_value (xs : Nat → Int32) (nS : Nat)  (x1 : Int32) : Option (Int32) :=
  (idv x1 3).bind fun v1 =>
  (mL_cell xs nS (1 + v1)).bind fun q2 =>
  (irm x1 3).bind fun v3 =>
  (mL_kinds xs nS).bind fun q4 =>
  (mL_in (q2 >>> ((8 * v3) &&& 31)) q4).bind fun q5 =>
  some q5
def mL_weight (xs : Nat → Int32) (nS : Nat)  (x1 : Int32) : Option (Int32) :=
  (idv x1 3).bind fun v1 =>
  (mL_cell xs nS (1 + v1)).bind fun q2 =>
  (irm x1 3).bind fun v3 =>
  (mL_in (q2 >>> (((8 * v3) + 4) &&& 31)) 3).bind fun q4 =>
  some (1 + q4)
def mL_isAhead (cC : Nat → Nat → Int32) (x1 : Int32) (x2 : Int32) (x3 : Int32) : Option (Int32) :=
  (rx 12 x1).bind fun j1 =>
  (rd (cC j1) 3 0).bind fun v2 =>
  (rx 12 x2).bind fun j3 =>
  (rd (cC j3) 3 0).bind fun v4 =>
  if v2 = v4 then
    if ¬ x3 = 0 then
      if ¬ x3 = 1 then
        if ¬ x3 = 2 then
          if x1 ≤ x2 then
            some 0
          else
            some 1
        else
          if x2 ≤ x1 then
            some 0
          else
            some 1
      else
        (rx 12 x1).bind fun j11 =>
        (rd (cC j11) 3 2).bind fun v12 =>
        (rx 12 x2).bind fun j13 =>
        (rd (cC j13) 3 2).bind fun v14 =>
        if v12 ≤ v14 then
          some 0
        else
          some 1
    else
      (rx 12 x1).bind fun j16 =>
      (rd (cC j16) 3 1).bind fun v17 =>
      (rx 12 x2).bind fun j18 =>
      (rd (cC j18) 3 1).bind fun v19 =>
      if v19 ≤ v17 then
        some 0
      else
        some 1
  else
    (rx 12 x1).bind fun j21 =>
    (rd (cC j21) 3 0).bind fun v22 =>
    (rx 12 x2).bind fun j23 =>
    (rd (cC j23) 3 0).bind fun v24 =>
    if v22 ≤ v24 then
      some 0
    else
      some 1
def mL_ranked_L25 (cC : Nat → Nat → Int32) (x2 : Int32) (x3 : Int32) : Nat → Int32 → Int32 → Option (Int32)
  | 0, _, _ => none
  | n + 1, x4, x5 =>
    if 12 ≤ x5 then
      some x4
    else
      if x5 = x3 then
        mL_ranked_L25 cC x2 x3 n (x4 + 0) (x5 + 1)
      else
        (rx 12 x5).bind fun j9 =>
        (rd (cC j9) 3 0).bind fun v10 =>
        if v10 ≤ 0 then
          mL_ranked_L25 cC x2 x3 n (x4 + 0) (x5 + 1)
        else
          (mL_isAhead cC x5 x3 x2).bind fun q12 =>
          if q12 = 0 then
            mL_ranked_L25 cC x2 x3 n (x4 + 0) (x5 + 1)
          else
            mL_ranked_L25 cC x2 x3 n (x4 + 1) (x5 + 1)
def mL_ranked_L2 (cC : Nat → Nat → Int32) (x1 : Int32) (x2 : Int32) : Nat → Int32 → Option (Int32)
  | 0, _ => none
  | n + 1, x3 =>
    if 12 ≤ x3 then
      some (-2)
    else
      (rx 12 x3).bind fun j3 =>
      (rd (cC j3) 3 0).bind fun v4 =>
      if ¬ v4 = 0 then
        (mL_ranked_L25 cC x2 x3 FU 0 0).bind fun z14 =>
        if ¬ z14 = x1 then
          mL_ranked_L2 cC x1 x2 n (x3 + 1)
        else
          some x3
      else
        mL_ranked_L2 cC x1 x2 n (x3 + 1)
def mL_ranked (cC : Nat → Nat → Int32) (x1 : Int32) (x2 : Int32) : Option (Int32) :=
  mL_ranked_L2 cC x1 x2 FU 0
def mL_isSame_L11 (n0 : Nat) (n1 : Nat) (f0 : Nat → Int32) (f1 : Nat → Int32) : Nat → Int32 → Option (Int32)
  | 0, _ => none
  | n + 1, x2 =>
    if (nI n0) ≤ x2 then
      some 1
    else
      (rd f0 n0 x2).bind fun v4 =>
      (rd f1 n1 x2).bind fun v5 =>
      if v4 = v5 then
        mL_isSame_L11 n0 n1 f0 f1 n (x2 + 1)
      else
        some 0
def mL_isSame (n0 : Nat) (n1 : Nat) (f0 : Nat → Int32) (f1 : Nat → Int32)  : Option (Int32) :=
  if (nI n0) = (nI n1) then
    mL_isSame_L11 n0 n1 f0 f1 FU 0
  else
    some 0
def mL_fresh_L40 (n0 : Nat) (n1 : Nat) (f0 : Nat → Int32) (f1 : Nat → Int32) (x2 : Int32) (x6 : Int32) : Nat → Int32 → Int32 → Option (Int32)
  | 0, _, _ => none
  | n + 1, x7, x8 =>
    if ((x6 + 1) * x2) ≤ x8 then
      some x7
    else
      if (nI n1) ≤ x8 then
        if x8 < (nI n1) then
          mL_fresh_L40 n0 n1 f0 f1 x2 x6 n (x7 ||| 0) (x8 + 1)
        else
          if (nI n0) ≤ x8 then
            mL_fresh_L40 n0 n1 f0 f1 x2 x6 n (x7 ||| 0) (x8 + 1)
          else
            mL_fresh_L40 n0 n1 f0 f1 x2 x6 n (x7 ||| 1) (x8 + 1)
      else
        if (nI n0) ≤ x8 then
          mL_fresh_L40 n0 n1 f0 f1 x2 x6 n (x7 ||| 1) (x8 + 1)
        else
          (rd f0 n0 x8).bind fun v12 =>
          (rd f1 n1 x8).bind fun v13 =>
          if ¬ v12 = v13 then
            mL_fresh_L40 n0 n1 f0 f1 x2 x6 n (x7 ||| 1) (x8 + 1)
          else
            if x8 < (nI n1) then
              mL_fresh_L40 n0 n1 f0 f1 x2 x6 n (x7 ||| 0) (x8 + 1)
            else
              if (nI n0) ≤ x8 then
                mL_fresh_L40 n0 n1 f0 f1 x2 x6 n (x7 ||| 0) (x8 + 1)
              else
                mL_fresh_L40 n0 n1 f0 f1 x2 x6 n (x7 ||| 1) (x8 + 1)
def mL_fresh_L25 (n0 : Nat) (n1 : Nat) (f0 : Nat → Int32) (f1 : Nat → Int32) (x2 : Int32) (x3 : Int32) (x5 : Int32) : Nat → Int32 → Int32 → Option (Int32)
  | 0, _, _ => none
  | n + 1, x4, x6 =>
    if x3 ≤ x6 then
      some x4
    else
      (mL_fresh_L40 n0 n1 f0 f1 x2 x6 FU 0 (x5 * x2)).bind fun z17 =>
      if z17 = 0 then
        mL_fresh_L25 n0 n1 f0 f1 x2 x3 x5 n (x4 + 0) (x6 + 1)
      else
        mL_fresh_L25 n0 n1 f0 f1 x2 x3 x5 n (x4 + 1) (x6 + 1)
def mL_fresh_L15 (n0 : Nat) (n1 : Nat) (f0 : Nat → Int32) (f1 : Nat → Int32) (x2 : Int32) (x3 : Int32) : Nat → Int32 → Int32 → Option (Int32)
  | 0, _, _ => none
  | n + 1, x4, x5 =>
    if x3 ≤ x5 then
      some x4
    else
      (mL_fresh_L25 n0 n1 f0 f1 x2 x3 x5 FU x4 x5).bind fun z19 =>
      mL_fresh_L15 n0 n1 f0 f1 x2 x3 n z19 (x5 + 1)
def mL_fresh (n0 : Nat) (n1 : Nat) (f0 : Nat → Int32) (f1 : Nat → Int32) (x2 : Int32) : Option (Int32) :=
  (idv (((nI n1) + x2) - 1) x2).bind fun v1 =>
  (mL_fresh_L15 n0 n1 f0 f1 x2 v1 FU 0 0).bind fun z20 =>
  some z20
def mL_does_L24 (n1 : Nat) (nt : Nat) (f1 : Nat → Int32) (tF : Nat → Int32) : Nat → Int32 → Int32 → Option (Int32)
  | 0, _, _ => none
  | n + 1, x10, x11 =>
    if (nI n1) ≤ x11 then
      some x10
    else
      if (nI nt) ≤ x11 then
        some x10
      else
        (rd f1 n1 x11).bind fun v4 =>
        (rd tF nt x11).bind fun v5 =>
        if ¬ v4 = v5 then
          mL_does_L24 n1 nt f1 tF n (x10 + 1) (x11 + 1)
        else
          mL_does_L24 n1 nt f1 tF n (x10 + 0) (x11 + 1)
def mL_does (n1 : Nat) (n2 : Nat) (nt : Nat) (block : Int32) (pmn : Int32) (row : RowT) (next : RowT) (past : PasT) (f1 : Nat → Int32) (f2 : Nat → Int32) (tF : Nat → Int32) (tG : Nat → Int32) (x4 : Int32) (x5 : Int32) (x6 : Int32) (x7 : Int32) : Option (Int32 × Int32 × RowT × RowT × PasT) :=
  (mL_does_L24 n1 nt f1 tF FU 0 0).bind fun z7 =>
  if x4 = 0 then
    (mX5_set block pmn row next past x5 x7).bind fun q8 =>
    (rd f1 n1 x5).bind fun v9 =>
    if ¬ q8.1 = v9 then
      some (0, q8.2.1, q8.2.2.1, q8.2.2.2.1, q8.2.2.2.2)
    else
      some (1, q8.2.1, q8.2.2.1, q8.2.2.2.1, q8.2.2.2.2)
  else if x4 = 1 then
    (irm x7 9).bind fun v12 =>
    (mX5_weigh block pmn row next past x5 (1 + v12)).bind fun q13 =>
    (rd f2 n2 x5).bind fun v14 =>
    if ¬ q13.1 = v14 then
      some (0, q13.2.1, q13.2.2.1, q13.2.2.2.1, q13.2.2.2.2)
    else
      some (1, q13.2.1, q13.2.2.1, q13.2.2.2.1, q13.2.2.2.2)
  else if x4 = 2 then
    (mX5_insert block pmn row next past x5 x7).bind fun q17 =>
    if ¬ q17.1 = ((nI n1) + 1) then
      some (0, q17.2.1, q17.2.2.1, q17.2.2.2.1, q17.2.2.2.2)
    else
      some (1, q17.2.1, q17.2.2.1, q17.2.2.2.1, q17.2.2.2.2)
  else if x4 = 3 then
    (mX5_remove block pmn row next past x5).bind fun q20 =>
    (rd f1 n1 x5).bind fun v21 =>
    if ¬ q20.1 = v21 then
      some (0, q20.2.1, q20.2.2.1, q20.2.2.2.1, q20.2.2.2.2)
    else
      some (1, q20.2.1, q20.2.2.1, q20.2.2.2.1, q20.2.2.2.2)
  else if x4 = 4 then
    (mX5_fill block pmn row next past (if x6 < x5 then x6 else x5) (if x5 < x6 then x6 else x5) x7).bind fun q24 =>
    if ¬ q24.1 = z7 then
      some (0, q24.2.1, q24.2.2.1, q24.2.2.2.1, q24.2.2.2.2)
    else
      some (1, q24.2.1, q24.2.2.1, q24.2.2.2.1, q24.2.2.2.2)
  else if x4 = 5 then
    (mX5_swap block pmn row next past x5 x6).bind fun q27 =>
    if x5 = x6 then
      if ¬ q27.1 = 0 then
        some (0, q27.2.1, q27.2.2.1, q27.2.2.2.1, q27.2.2.2.2)
      else
        some (1, q27.2.1, q27.2.2.1, q27.2.2.2.1, q27.2.2.2.2)
    else
      if ¬ q27.1 = 1 then
        some (0, q27.2.1, q27.2.2.1, q27.2.2.2.1, q27.2.2.2.2)
      else
        some (1, q27.2.1, q27.2.2.1, q27.2.2.2.1, q27.2.2.2.2)
  else if x4 = 6 then
    (mX5_flip block pmn row next past (if x6 < x5 then x6 else x5) (if x5 < x6 then x6 else x5)).bind fun q32 =>
    if ¬ q32.1 = z7 then
      some (0, q32.2.1, q32.2.2.1, q32.2.2.2.1, q32.2.2.2.2)
    else
      some (1, q32.2.1, q32.2.2.1, q32.2.2.2.1, q32.2.2.2.2)
  else if x4 = 7 then
    (irm x7 (((if x5 < x6 then x6 else x5) - (if x6 < x5 then x6 else x5)) + 2)).bind fun v35 =>
    (mX5_shift block pmn row next past (if x6 < x5 then x6 else x5) (if x5 < x6 then x6 else x5) v35).bind fun q36 =>
    if ¬ q36.1 = z7 then
      some (0, q36.2.1, q36.2.2.1, q36.2.2.2.1, q36.2.2.2.2)
    else
      some (1, q36.2.1, q36.2.2.1, q36.2.2.2.1, q36.2.2.2.2)
  else if x4 = 8 then
    (rd f1 n1 x5).bind fun v39 =>
    (mX5_replace block pmn row next past v39 x7).bind fun q40 =>
    if ¬ q40.1 = z7 then
      some (0, q40.2.1, q40.2.2.1, q40.2.2.2.1, q40.2.2.2.2)
    else
      some (1, q40.2.1, q40.2.2.1, q40.2.2.2.1, q40.2.2.2.2)
  else 
    (irm x7 2).bind fun v43 =>
    (if ¬ v43 = 0 then
      some 0
    else
      some 1).bind fun (z44 : Int32) =>
    (mX5_sort block pmn row next past (if x6 < x5 then x6 else x5) (if x5 < x6 then x6 else x5) z44).bind fun q46 =>
    if ¬ q46.1 = z7 then
      some (0, q46.2.1, q46.2.2.1, q46.2.2.2.1, q46.2.2.2.2)
    else
      some (1, q46.2.1, q46.2.2.1, q46.2.2.2.1, q46.2.2.2.2)
def mL_counted_L11 (n0 : Nat) (f0 : Nat → Int32) (x2 : Int32) : Nat → Int32 → (Nat → Nat → Int32) → Option ((Nat → Nat → Int32))
  | 0, _, _ => none
  | n + 1, x4, cC =>
    if x2 < x4 then
      some cC
    else
      (rd f0 n0 x4).bind fun v3 =>
      (rx 12 v3).bind fun j4 =>
      (rd (cC j4) 3 0).bind fun v5 =>
      (if ¬ v5 = 0 then
        some cC
      else
        (rd f0 n0 x4).bind fun v16 =>
        (rx 12 v16).bind fun j17 =>
        (wr (cC j17) 3 1 x4).bind fun a18 =>
        some (va_up cC j17 a18)).bind fun (z6 : (Nat → Nat → Int32)) =>
      (rd f0 n0 x4).bind fun v8 =>
      (rx 12 v8).bind fun j9 =>
      (rd (z6 j9) 3 0).bind fun v10 =>
      (wr (z6 j9) 3 0 (v10 + 1)).bind fun a11 =>
      (rd f0 n0 x4).bind fun v12 =>
      (rx 12 v12).bind fun j13 =>
      (wr ((va_up z6 j9 a11) j13) 3 2 x4).bind fun a14 =>
      mL_counted_L11 n0 f0 x2 n (x4 + 1) (va_up (va_up z6 j9 a11) j13 a14)
def mL_counted (n0 : Nat) (f0 : Nat → Int32) (cC : Nat → Nat → Int32) (x1 : Int32) (x2 : Int32) : Option (Nat → Nat → Int32) :=
  (mL_counted_L11 n0 f0 x2 FU x1 cC).bind fun z19 =>
  some z19
def mL_isSpan_L245 (K : TalT → Option (Int32 × TalT)) (row : RowT) (cC : Nat → Nat → Int32) (x3 : Int32) (x4 : Int32) : Nat → Int32 → TalT → Option (Int32 × TalT)
  | 0, _, _ => none
  | n + 1, x10, tally =>
    if 4 ≤ x10 then
      K tally
    else
      (mX5_ifTies row tally x10 x3 x4).bind fun q6 =>
      (mL_ranked cC 0 x10).bind fun q7 =>
      if q6.1 = q7 then
        mL_isSpan_L245 K row cC x3 x4 n (x10 + 1) q6.2
      else
        some (0, q6.2)
def mL_isSpan_L50 (n1 : Nat) (n2 : Nat) (f1 : Nat → Int32) (f2 : Nat → Int32) (x4 : Int32) (x11 : Int32) : Nat → Int32 → Int32 → Option (Int32)
  | 0, _, _ => none
  | n + 1, x12, x13 =>
    if x4 < x13 then
      some x12
    else
      (rd f1 n1 x13).bind fun v29 =>
      if ¬ v29 = x11 then
        mL_isSpan_L50 n1 n2 f1 f2 x4 x11 n (x12 + 0) (x13 + 1)
      else
        (rd f2 n2 x13).bind fun v31 =>
        mL_isSpan_L50 n1 n2 f1 f2 x4 x11 n (x12 + v31) (x13 + 1)
def mL_isSpan_L143 (K : TalT → Option (Int32 × TalT)) (ties : Int32) (row : RowT) (w_101 : Nat → Int32) (x3 : Int32) (x4 : Int32) (x10 : Int32) : Nat → Int32 → TalT → Option (Int32 × TalT)
  | 0, _, _ => none
  | n + 1, x14, tally =>
    if 4 ≤ x14 then
      K tally
    else
      (mX5_ranked ties row tally x3 x4 x10 x14).bind fun q47 =>
      (rd w_101 4 x14).bind fun v48 =>
      if ¬ q47.1 = v48 then
        some (0, q47.2)
      else
        if ¬ x10 = 0 then
          mL_isSpan_L143 K ties row w_101 x3 x4 x10 n (x14 + 1) q47.2
        else
          (mX5_mode ties row q47.2 x3 x4 x14).bind fun q51 =>
          (rd w_101 4 x14).bind fun v52 =>
          if q51.1 = v52 then
            mL_isSpan_L143 K ties row w_101 x3 x4 x10 n (x14 + 1) q51.2
          else
            some (0, q51.2)
def mL_isSpan_L21 (n1 : Nat) (n2 : Nat) (ties : Int32) (row : RowT) (f1 : Nat → Int32) (f2 : Nat → Int32) (cC : Nat → Nat → Int32) (x3 : Int32) (x4 : Int32) (x5 : Int32) : Nat → Int32 → Int32 → Int32 → Int32 → TalT → (Nat → Int32) → Option (Int32 × TalT)
  | 0, _, _, _, _, _, _ => none
  | n + 1, x7, x8, x9, x10, tally, w_101 =>
    (mL_ranked cC x10 x5).bind fun q2 =>
    if q2 < 0 then
      mL_isSpan_L245 (fun (z9 : TalT) =>
        (mL_ranked cC 0 x5).bind fun q10 =>
        (rx 12 q10).bind fun j11 =>
        (rd (cC j11) 3 0).bind fun v12 =>
        (if (2 * v12) ≤ ((x4 - x3) + 1) then
          some (-2)
        else
          some q10).bind fun (z13 : Int32) =>
        (mX5_unlike ties row z9 x3 x4).bind fun q15 =>
        if ¬ q15.1 = x7 then
          some (0, q15.2)
        else
          (mX5_ranked ties row q15.2 x3 x4 x7 0).bind fun q17 =>
          if ¬ q17.1 = (-2) then
            some (0, q17.2)
          else
            (mX5_majority ties row q17.2 x3 x4).bind fun q19 =>
            if ¬ q19.1 = z13 then
              some (0, q19.2)
            else
              (mX5_heaviest ties row q19.2 x3 x4 0).bind fun q21 =>
              if ¬ q21.1 = x8 then
                some (0, q21.2)
              else
                (mX5_heaviest ties row q21.2 x3 x4 1).bind fun q23 =>
                if ¬ q23.1 = x9 then
                  some (0, q23.2)
                else
                  some (1, q23.2)) row cC x3 x4 FU 0 tally
    else
      (mL_ranked cC x10 x5).bind fun q26 =>
      (mL_isSpan_L50 n1 n2 f1 f2 x4 q26 FU 0 x3).bind fun z32 =>
      (if z32 ≤ x9 then
        some (x8, x9)
      else
        some (q26, z32)).bind fun (z33 : Int32 × Int32) =>
      (wr (fun _ => 0) 4 0 q26).bind fun a35 =>
      (rx 12 q26).bind fun j36 =>
      (rd (cC j36) 3 0).bind fun v37 =>
      (wr a35 4 1 v37).bind fun a38 =>
      (rx 12 q26).bind fun j39 =>
      (rd (cC j39) 3 1).bind fun v40 =>
      (wr a38 4 2 v40).bind fun a41 =>
      (rx 12 q26).bind fun j42 =>
      (rd (cC j42) 3 2).bind fun v43 =>
      (wr a41 4 3 v43).bind fun a44 =>
      mL_isSpan_L143 (fun (z54 : TalT) =>
        (mX5_rank ties row z54 x3 x4 q26).bind fun q55 =>
        if ¬ q55.1 = x10 then
          some (0, q55.2)
        else
          (mX5_often row x3 x4 q26).bind fun q57 =>
          (rx 12 q26).bind fun j58 =>
          (rd (cC j58) 3 0).bind fun v59 =>
          if q57 = v59 then
            mL_isSpan_L21 n1 n2 ties row f1 f2 cC x3 x4 x5 n (x7 + 1) z33.1 z33.2 (x10 + 1) q55.2 a44
          else
            some (0, q55.2)) ties row a44 x3 x4 x10 FU 0 tally
def mL_isSpan (n1 : Nat) (n2 : Nat) (ties : Int32) (row : RowT) (tally : TalT) (f1 : Nat → Int32) (f2 : Nat → Int32) (cC : Nat → Nat → Int32) (x3 : Int32) (x4 : Int32) (x5 : Int32) : Option (Int32 × TalT) :=
  mL_isSpan_L21 n1 n2 ties row f1 f2 cC x3 x4 x5 14 0 (-1) 0 0 tally (fun _ => 0)
def mL_edited_L130 (n0 : Nat) (f0 : Nat → Int32) (f1 : Nat → Int32) (x3 : Int32) (x5 : Int32) (x6 : Int32) : Nat → Int32 → (Nat → Int32) → (Nat → Int32) → Option ((Nat → Int32) × (Nat → Int32))
  | 0, _, _, _ => none
  | n + 1, x11, w_115, w_123 =>
    if x6 < x11 then
      some (w_115, w_123)
    else
      (if x3 ≤ x11 then
        if ¬ x11 = x3 then
          (rd f0 n0 (x11 - 1)).bind fun v20 =>
          some v20
        else
          some x5
      else
        (rd f0 n0 x11).bind fun v21 =>
        some v21).bind fun (z8 : Int32) =>
      (wr w_115 (x6 + 1).toNatClampNeg x11 z8).bind fun a10 =>
      if x3 ≤ x11 then
        if ¬ x11 = x3 then
          (rd f1 n0 (x11 - 1)).bind fun v13 =>
          (wr w_123 (x6 + 1).toNatClampNeg x11 v13).bind fun a14 =>
          mL_edited_L130 n0 f0 f1 x3 x5 x6 n (x11 + 1) a10 a14
        else
          (wr w_123 (x6 + 1).toNatClampNeg x11 1).bind fun a15 =>
          mL_edited_L130 n0 f0 f1 x3 x5 x6 n (x11 + 1) a10 a15
      else
        (rd f1 n0 x11).bind fun v16 =>
        (wr w_123 (x6 + 1).toNatClampNeg x11 v16).bind fun a17 =>
        mL_edited_L130 n0 f0 f1 x3 x5 x6 n (x11 + 1) a10 a17
def mL_edited_L234 (n0 : Nat) (f0 : Nat → Int32) (f1 : Nat → Int32) (x3 : Int32) (x6 : Int32) : Nat → Int32 → (Nat → Int32) → (Nat → Int32) → Option ((Nat → Int32) × (Nat → Int32))
  | 0, _, _, _ => none
  | n + 1, x11, w_219, w_227 =>
    if x6 ≤ (x11 + 1) then
      some (w_219, w_227)
    else
      (if x3 ≤ x11 then
        some (x11 + 1)
      else
        some x11).bind fun (z26 : Int32) =>
      (rd f0 n0 z26).bind fun v28 =>
      (wr w_219 (x6 - 1).toNatClampNeg x11 v28).bind fun a29 =>
      if x3 ≤ x11 then
        (rd f1 n0 (x11 + 1)).bind fun v31 =>
        (wr w_227 (x6 - 1).toNatClampNeg x11 v31).bind fun a32 =>
        mL_edited_L234 n0 f0 f1 x3 x6 n (x11 + 1) a29 a32
      else
        (rd f1 n0 x11).bind fun v33 =>
        (wr w_227 (x6 - 1).toNatClampNeg x11 v33).bind fun a34 =>
        mL_edited_L234 n0 f0 f1 x3 x6 n (x11 + 1) a29 a34
def mL_edited_L300 (n0 : Nat) (x5 : Int32) (x10 : Int32) : Nat → Int32 → (Nat → Int32) → Option ((Nat → Int32))
  | 0, _, _ => none
  | n + 1, x11, f7 =>
    if x10 < x11 then
      some f7
    else
      (wr f7 n0 x11 x5).bind fun a40 =>
      mL_edited_L300 n0 x5 x10 n (x11 + 1) a40
def mL_edited_L362 (n0 : Nat) (f0 : Nat → Int32) (f1 : Nat → Int32) (x9 : Int32) (x10 : Int32) : Nat → Int32 → (Nat → Int32) → (Nat → Int32) → Option ((Nat → Int32) × (Nat → Int32))
  | 0, _, _, _ => none
  | n + 1, x11, f7, f8 =>
    if x10 < x11 then
      some (f7, f8)
    else
      (rd f0 n0 ((x9 + x10) - x11)).bind fun v54 =>
      (wr f7 n0 x11 v54).bind fun a55 =>
      (rd f1 n0 ((x9 + x10) - x11)).bind fun v56 =>
      (wr f8 n0 x11 v56).bind fun a57 =>
      mL_edited_L362 n0 f0 f1 x9 x10 n (x11 + 1) a55 a57
def mL_edited_L412 (n0 : Nat) (f0 : Nat → Int32) (f1 : Nat → Int32) (x5 : Int32) (x9 : Int32) (x10 : Int32) : Nat → Int32 → (Nat → Int32) → (Nat → Int32) → Option ((Nat → Int32) × (Nat → Int32))
  | 0, _, _, _ => none
  | n + 1, x11, f7, f8 =>
    if x10 < x11 then
      some (f7, f8)
    else
      (irm x5 ((x10 - x9) + 2)).bind fun v62 =>
      (irm ((x11 - x9) + v62) ((x10 - x9) + 1)).bind fun v63 =>
      (rd f0 n0 x11).bind fun v64 =>
      (wr f7 n0 (x9 + v63) v64).bind fun a65 =>
      (irm x5 ((x10 - x9) + 2)).bind fun v66 =>
      (irm ((x11 - x9) + v66) ((x10 - x9) + 1)).bind fun v67 =>
      (rd f1 n0 x11).bind fun v68 =>
      (wr f8 n0 (x9 + v67) v68).bind fun a69 =>
      mL_edited_L412 n0 f0 f1 x5 x9 x10 n (x11 + 1) a65 a69
def mL_edited_L499 (n0 : Nat) (f0 : Nat → Int32) (x3 : Int32) (x5 : Int32) (x6 : Int32) : Nat → Int32 → (Nat → Int32) → Option ((Nat → Int32))
  | 0, _, _ => none
  | n + 1, x11, f7 =>
    if x6 ≤ x11 then
      some f7
    else
      (rd f0 n0 x11).bind fun v74 =>
      (rd f0 n0 x3).bind fun v75 =>
      if ¬ v74 = v75 then
        (rd f0 n0 x11).bind fun v77 =>
        (wr f7 n0 x11 v77).bind fun a78 =>
        mL_edited_L499 n0 f0 x3 x5 x6 n (x11 + 1) a78
      else
        (wr f7 n0 x11 x5).bind fun a79 =>
        mL_edited_L499 n0 f0 x3 x5 x6 n (x11 + 1) a79
def mL_edited_L554 (n0 : Nat) (x5 : Int32) (x9 : Int32) : Nat → Int32 → (Nat → Int32) → (Nat → Int32) → Option ((Nat → Int32) × (Nat → Int32))
  | 0, _, _, _ => none
  | n + 1, x12, f7, f8 =>
    if x12 ≤ x9 then
      some (f7, f8)
    else
      (irm x5 2).bind fun v86 =>
      if ¬ v86 = 0 then
        (rd f7 n0 (x12 - 1)).bind fun v88 =>
        (rd f7 n0 x12).bind fun v89 =>
        if v89 ≤ v88 then
          some (f7, f8)
        else
          (rd f7 n0 x12).bind fun v91 =>
          (rd f7 n0 (x12 - 1)).bind fun v92 =>
          (wr f7 n0 x12 v92).bind fun a93 =>
          (wr a93 n0 (x12 - 1) v91).bind fun a94 =>
          (rd f8 n0 x12).bind fun v95 =>
          (rd f8 n0 (x12 - 1)).bind fun v96 =>
          (wr f8 n0 x12 v96).bind fun a97 =>
          (wr a97 n0 (x12 - 1) v95).bind fun a98 =>
          mL_edited_L554 n0 x5 x9 n (x12 + (-1)) a94 a98
      else
        (rd f7 n0 (x12 - 1)).bind fun v99 =>
        (rd f7 n0 x12).bind fun v100 =>
        if v99 ≤ v100 then
          some (f7, f8)
        else
          (rd f7 n0 x12).bind fun v102 =>
          (rd f7 n0 (x12 - 1)).bind fun v103 =>
          (wr f7 n0 x12 v103).bind fun a104 =>
          (wr a104 n0 (x12 - 1) v102).bind fun a105 =>
          (rd f8 n0 x12).bind fun v106 =>
          (rd f8 n0 (x12 - 1)).bind fun v107 =>
          (wr f8 n0 x12 v107).bind fun a108 =>
          (wr a108 n0 (x12 - 1) v106).bind fun a109 =>
          mL_edited_L554 n0 x5 x9 n (x12 + (-1)) a105 a109
def mL_edited_L543 (n0 : Nat) (x5 : Int32) (x9 : Int32) (x10 : Int32) : Nat → Int32 → (Nat → Int32) → (Nat → Int32) → Option ((Nat → Int32) × (Nat → Int32))
  | 0, _, _, _ => none
  | n + 1, x11, f7, f8 =>
    if x10 < x11 then
      some (f7, f8)
    else
      (mL_edited_L554 n0 x5 x9 FU x11 f7 f8).bind fun z110 =>
      mL_edited_L543 n0 x5 x9 x10 n (x11 + 1) z110.1 z110.2
def mL_edited (n0 : Nat) (f0 : Nat → Int32) (f1 : Nat → Int32) (f7 : Nat → Int32) (f8 : Nat → Int32) (x2 : Int32) (x3 : Int32) (x4 : Int32) (x5 : Int32) (x6 : Int32) : Option (Nat × (Nat → Int32) × (Nat → Int32)) :=
  if x2 = 0 then
    (wr f7 n0 x3 x5).bind fun a1 =>
    some (n0, a1, f8)
  else if x2 = 1 then
    (irm x5 9).bind fun v3 =>
    (wr f8 n0 x3 (1 + v3)).bind fun a4 =>
    some (n0, f7, a4)
  else if x2 = 2 then
    (nw (x6 + 1)).bind fun _ =>
    (nw (x6 + 1)).bind fun _ =>
    (mL_edited_L130 n0 f0 f1 x3 x5 x6 FU 0 (fun _ => 0) (fun _ => 0)).bind fun z22 =>
    some ((x6 + 1).toNatClampNeg, z22.1, z22.2)
  else if x2 = 3 then
    (nw (x6 - 1)).bind fun _ =>
    (nw (x6 - 1)).bind fun _ =>
    (mL_edited_L234 n0 f0 f1 x3 x6 FU 0 (fun _ => 0) (fun _ => 0)).bind fun z36 =>
    some ((x6 - 1).toNatClampNeg, z36.1, z36.2)
  else if x2 = 4 then
    (mL_edited_L300 n0 x5 (if x3 < x4 then x4 else x3) FU (if x4 < x3 then x4 else x3) f7).bind fun z41 =>
    some (n0, z41, f8)
  else if x2 = 5 then
    (rd f0 n0 x4).bind fun v43 =>
    (wr f7 n0 x3 v43).bind fun a44 =>
    (rd f1 n0 x4).bind fun v45 =>
    (wr f8 n0 x3 v45).bind fun a46 =>
    (rd f0 n0 x3).bind fun v47 =>
    (wr a44 n0 x4 v47).bind fun a48 =>
    (rd f1 n0 x3).bind fun v49 =>
    (wr a46 n0 x4 v49).bind fun a50 =>
    some (n0, a48, a50)
  else if x2 = 6 then
    (mL_edited_L362 n0 f0 f1 (if x4 < x3 then x4 else x3) (if x3 < x4 then x4 else x3) FU (if x4 < x3 then x4 else x3) f7 f8).bind fun z58 =>
    some (n0, z58.1, z58.2)
  else if x2 = 7 then
    (mL_edited_L412 n0 f0 f1 x5 (if x4 < x3 then x4 else x3) (if x3 < x4 then x4 else x3) FU (if x4 < x3 then x4 else x3) f7 f8).bind fun z70 =>
    some (n0, z70.1, z70.2)
  else if x2 = 8 then
    (mL_edited_L499 n0 f0 x3 x5 x6 FU 0 f7).bind fun z80 =>
    some (n0, z80, f8)
  else 
    (mL_edited_L543 n0 x5 (if x4 < x3 then x4 else x3) (if x3 < x4 then x4 else x3) FU (if x4 < x3 then x4 else x3) f7 f8).bind fun z111 =>
    some (n0, z111.1, z111.2)
