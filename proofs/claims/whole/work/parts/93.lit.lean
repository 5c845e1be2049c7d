/-! a light as a text: what is read; what its signs are worth -/
abbrev Tk : Type := Nat × Nat
abbrev Rs : Type := Nat ⊕ (Nat × List Tk)
def bnd (r : Rs) (f : Nat → List Tk → Rs) : Rs := match r with
  | .inl e => .inl e
  | .inr (p, t) => f p t
theorem bnd_l (e : Nat) (f : Nat → List Tk → Rs) : bnd (.inl e) f = .inl e := rfl
theorem bnd_r (p : Nat) (t : List Tk) (f : Nat → List Tk → Rs) : bnd (.inr (p, t)) f = f p t := rfl
def isS (c : Nat) : Bool := decide (c = 61) || (decide (c = 60) || decide (c = 62))
def cmK (c : Nat) : Nat := if c = 61 then 6 else if c = 60 then 7 else 8
def csT (c : Nat) : Option Nat := if c = 42 then some 4 else if c = 47 then some 5 else none
def csS (c : Nat) : Option Nat := if c = 43 then some 2 else if c = 45 then some 3 else none
def csA (c : Nat) : Option Nat := if c = 38 then some 10 else none
def csO (c : Nat) : Option Nat := if c = 124 then some 11 else none
theorem bnd_bnd (r : Rs) (f g : Nat → List Tk → Rs) : bnd (bnd r f) g = bnd r (fun p t => bnd (f p t) g) := by
  cases r with
  | inl e => rfl
  | inr x => rfl
section LIT
variable (n : Nat) (tb : Nat → Nat)
def pAt (k : Bool) (S : Nat → Rs) (p : Nat) : Rs :=
  if chA n tb (sk n tb p) = 91 then (if k = true then bnd (S (sk n tb p + 1)) (fun p' t => if chA n tb (sk n tb p') = 93 then .inr (sk n tb p' + 1, t) else .inl (sk n tb p')) else .inl (sk n tb p))
  else match ixN ixL (chA n tb (sk n tb p)) with
    | some l => .inr (sk n tb p + 1, [(1, l)])
    | none => match numA n tb 4 (sk n tb p) with
      | .inl e => .inl e
      | .inr (p', v) => .inr (p', [(0, v)])
def lpO (cs : Nat → Option Nat) (A : Nat → Rs) : Nat → Nat → List Tk → Rs
  | 0, p, ts => .inr (sk n tb p, ts)
  | f + 1, p, ts => match cs (chA n tb (sk n tb p)) with
    | some k => bnd (A (sk n tb p + 1)) (fun p' t => lpO cs A f p' (ts ++ (t ++ [(k, 0)])))
    | none => .inr (sk n tb p, ts)
def tmP (A : Nat → Rs) (p : Nat) : Rs := bnd (A p) (fun p' t => lpO n tb csT A n p' t)
def smP (A : Nat → Rs) (p : Nat) : Rs := bnd (tmP n tb A p) (fun p' t => lpO n tb csS (tmP n tb A) n p' t)
def sS : Nat → Nat → Rs
  | 0 => smP n tb (pAt n tb false (fun _ => .inl 0))
  | k + 1 => smP n tb (pAt n tb true (sS k))
def aA : Nat → Nat → Rs
  | 0 => pAt n tb false (fun _ => .inl 0)
  | k + 1 => pAt n tb true (sS n tb k)
theorem sS_eq (k : Nat) : sS n tb k = smP n tb (aA n tb k) := by cases k <;> rfl
def cmP (k : Nat) (p : Nat) (t : List Tk) : Rs := if isS (chA n tb (sk n tb p)) = true then bnd (sS n tb k (sk n tb p + 1)) (fun p' t' => .inr (p', t ++ (t' ++ [(cmK (chA n tb (sk n tb p)), 0)]))) else .inl (sk n tb p)
def anP (U : Nat → Rs) (p : Nat) : Rs := bnd (U p) (fun p' t => lpO n tb csA U n p' t)
def cdT (U : Nat → Rs) (r : Rs) : Rs := bnd (bnd r (fun p t => lpO n tb csA U n p t)) (fun p t => lpO n tb csO (anP n tb U) n p t)
def uU : Nat → Nat → Rs
  | 0, p => if chA n tb (sk n tb p) = 33 ∨ chA n tb (sk n tb p) = 40 then .inl (sk n tb p) else bnd (sS n tb 0 (sk n tb p)) (cmP n tb 0)
  | k + 1, p => if chA n tb (sk n tb p) = 33 then bnd (uU k (sk n tb p + 1)) (fun p' t => .inr (p', t ++ [(9, 0)])) else if chA n tb (sk n tb p) = 40 then bnd (cdT n tb (uU k) (uU k (sk n tb p + 1))) (fun p' t => if chA n tb (sk n tb p') = 41 then .inr (sk n tb p' + 1, t) else .inl (sk n tb p')) else bnd (sS n tb (k + 1) (sk n tb p)) (cmP n tb (k + 1))
def cC (k : Nat) (p : Nat) : Rs := cdT n tb (uU n tb k) (uU n tb k p)
abbrev Cl : Type := List Tk × List Tk
/-- behind a condition: a mark, then a sum -/
def qSm (r : Rs) : Nat ⊕ (Nat × Cl) := match r with
  | .inl e => .inl e
  | .inr (p, c) => if chA n tb (sk n tb p) = 63 then (match sS n tb 6 (sk n tb p + 1) with | .inl e => .inl e | .inr (p', t) => .inr (p', (c, t))) else .inl (sk n tb p)
def pCla (p : Nat) : Nat ⊕ (Nat × Cl) :=
  if chA n tb (sk n tb p) = 121 then
    (if chA n tb (sk n tb (sk n tb p + 1)) = 58 then
      (if chA n tb (sk n tb (sk n tb (sk n tb p + 1) + 1)) = 33 ∨ chA n tb (sk n tb (sk n tb (sk n tb p + 1) + 1)) = 40 then qSm n tb (cC n tb 6 (sk n tb (sk n tb (sk n tb p + 1) + 1)))
      else match sS n tb 6 (sk n tb (sk n tb (sk n tb p + 1) + 1)) with
        | .inl e => .inl e
        | .inr (p', t) => if isS (chA n tb (sk n tb p')) = true then qSm n tb (cdT n tb (uU n tb 6) (cmP n tb 6 p' t)) else .inr (sk n tb p', ([], t)))
    else .inl (sk n tb (sk n tb p + 1)))
  else .inl (sk n tb p)
def pLi : Nat → Nat → List Cl → Nat ⊕ List Cl
  | 0, p, _ => .inl p
  | f + 1, p, cs => match pCla n tb p with
    | .inl e => .inl e
    | .inr (p', c) => if chA n tb (sk n tb p') = 0 then .inr (cs ++ [c]) else if chA n tb (sk n tb p') = 59 then pLi f (sk n tb p' + 1) (cs ++ [c]) else .inl (sk n tb p')
def pLight : Nat ⊕ List Cl := pLi n tb (n + 1) 0 []
end LIT
/-! worth -/
def bdI (v : Int) : Int := if v < -1000000 then -1000000 else if 1000000 < v then 1000000 else v
def opI (k : Nat) (x y : Int) : Int :=
  if k = 2 then bdI (x + y) else if k = 3 then bdI (x - y) else if k = 4 then bdI (x * y) else if k = 5 then (if y = 0 then 0 else x.tdiv y)
  else if k = 6 then (if x = y then 1 else 0) else if k = 7 then (if x < y then 1 else 0) else if k = 8 then (if y < x then 1 else 0)
  else if k = 10 then (if x = 0 ∨ y = 0 then 0 else 1) else (if x = 0 ∧ y = 0 then 0 else 1)
/-- what an operation may be given -/
def gdP (k : Nat) (x y : Int) : Prop := (k = 10 ∨ k = 11 → (x = 0 ∨ x = 1) ∧ (y = 0 ∨ y = 1)) ∧ (¬ (k = 10 ∨ k = 11) → (-1000000 ≤ x ∧ x ≤ 1000000) ∧ (-1000000 ≤ y ∧ y ≤ 1000000))
def gdB (k : Nat) (x y : Int) : Bool := decide ((k = 10 ∨ k = 11 → (x = 0 ∨ x = 1) ∧ (y = 0 ∨ y = 1)) ∧ (¬ (k = 10 ∨ k = 11) → (-1000000 ≤ x ∧ x ≤ 1000000) ∧ (-1000000 ≤ y ∧ y ≤ 1000000)))
theorem gdB_iff {k : Nat} {x y : Int} : gdB k x y = true ↔ gdP k x y := by unfold gdB gdP; exact decide_eq_true_iff
theorem gdO_S {k : Nat} (hk : k ≤ 8) {x y : Int} (hx : -1000000 ≤ x ∧ x ≤ 1000000) (hy : -1000000 ≤ y ∧ y ≤ 1000000) : gdB k x y = true := gdB_iff.mpr ⟨fun h => by omega, fun _ => ⟨hx, hy⟩⟩
theorem gdO_C {k : Nat} (hk : k = 10 ∨ k = 11) {x y : Int} (hx : x = 0 ∨ x = 1) (hy : y = 0 ∨ y = 1) : gdB k x y = true := gdB_iff.mpr ⟨fun _ => ⟨hx, hy⟩, fun h => absurd hk h⟩
def stp (L : Nat → Int) (t : Tk) (st : List Int) : Option (List Int) :=
  if t.1 = 0 then some ((t.2 : Int) :: st) else if t.1 = 1 then some (L t.2 :: st)
  else if t.1 = 9 then (match st with | x :: r => (if x = 0 ∨ x = 1 then some ((1 - x) :: r) else none) | [] => none)
  else (match st with | y :: x :: r => (if gdB t.1 x y = true then some (opI t.1 x y :: r) else none) | _ => none)
def run (L : Nat → Int) : List Tk → List Int → Option (List Int)
  | [], st => some st
  | t :: r, st => (stp L t st).bind (run L r)
theorem run_app (L : Nat → Int) : ∀ (a b : List Tk) (st : List Int), run L (a ++ b) st = (run L a st).bind (run L b)
  | [], b, st => rfl
  | t :: a, b, st => by
    rw [List.cons_append, run, run]
    cases stp L t st with
    | none => rfl
    | some s => exact run_app L a b s
def LOkL (L : Nat → Int) : Prop := ∀ l, -1000000 ≤ L l ∧ L l ≤ 1000000
def opn : List Tk → Nat
  | [] => 0
  | t :: r => (if t.1 ≤ 1 then 1 else 0) + opn r
def bnn : List Tk → Nat
  | [] => 0
  | t :: r => (if t.1 ≤ 1 ∨ t.1 = 9 then 0 else 1) + bnn r
theorem opn_app : ∀ a b, opn (a ++ b) = opn a + opn b
  | [], b => by simp [opn]
  | t :: a, b => by rw [List.cons_append, opn, opn, opn_app a b]; omega
theorem bnn_app : ∀ a b, bnn (a ++ b) = bnn a + bnn b
  | [], b => by simp [bnn]
  | t :: a, b => by rw [List.cons_append, bnn, bnn, bnn_app a b]; omega
theorem ob_len : ∀ a, opn a + bnn a ≤ a.length
  | [] => Nat.le_refl _
  | t :: a => by
    have := ob_len a
    rw [opn, bnn, List.length_cons]
    by_cases h : t.1 ≤ 1
    · rw [if_pos h, if_pos (Or.inl h)]; omega
    · rw [if_neg h]; split <;> omega
def tkOk (t : Tk) : Prop := t.1 ≤ 11 ∧ t.2 ≤ 9999 ∧ (t.1 = 1 → t.2 < 6)
def vS (t : List Tk) : Prop := (∀ x ∈ t, tkOk x) ∧ opn t = bnn t + 1 ∧ ∀ L, LOkL L → ∃ v : Int, (-1000000 ≤ v ∧ v ≤ 1000000) ∧ ∀ st, run L t st = some (v :: st)
def vC (t : List Tk) : Prop := (∀ x ∈ t, tkOk x) ∧ opn t = bnn t + 1 ∧ ∀ L, LOkL L → ∃ v : Int, (v = 0 ∨ v = 1) ∧ ∀ st, run L t st = some (v :: st)
theorem bdI_bd (v : Int) : -1000000 ≤ bdI v ∧ bdI v ≤ 1000000 := by unfold bdI; split <;> (try split) <;> omega
theorem tdiv_bd {x y : Int} (h : -1000000 ≤ x ∧ x ≤ 1000000) : -1000000 ≤ x.tdiv y ∧ x.tdiv y ≤ 1000000 := by
  have h1 : (x.tdiv y).natAbs ≤ x.natAbs := by rw [Int.natAbs_tdiv]; exact Nat.div_le_self _ _
  omega
theorem opI_S {k : Nat} (hk : 2 ≤ k ∧ k ≤ 5) {x y : Int} (hx : -1000000 ≤ x ∧ x ≤ 1000000) : -1000000 ≤ opI k x y ∧ opI k x y ≤ 1000000 := by
  unfold opI
  by_cases h2 : k = 2
  · rw [if_pos h2]; exact bdI_bd _
  · rw [if_neg h2]
    by_cases h3 : k = 3
    · rw [if_pos h3]; exact bdI_bd _
    · rw [if_neg h3]
      by_cases h4 : k = 4
      · rw [if_pos h4]; exact bdI_bd _
      · rw [if_neg h4, if_pos (by omega)]
        by_cases h5 : y = 0
        · rw [if_pos h5]; omega
        · rw [if_neg h5]; exact tdiv_bd hx
theorem opI_C {k : Nat} (hk : (6 ≤ k ∧ k ≤ 8) ∨ k = 10 ∨ k = 11) (x y : Int) : opI k x y = 0 ∨ opI k x y = 1 := by
  unfold opI
  rw [if_neg (by omega), if_neg (by omega), if_neg (by omega), if_neg (by omega)]
  repeat' split
  all_goals simp
theorem stp_op {L : Nat → Int} {k v : Nat} (hk : (2 ≤ k ∧ k ≤ 8) ∨ k = 10 ∨ k = 11) {x y : Int} (hg : gdB k x y = true) {st : List Int} : stp L (k, v) (y :: x :: st) = some (opI k x y :: st) := by
  unfold stp
  simp only
  rw [if_neg (by omega), if_neg (by omega), if_neg (by omega), if_pos hg]
theorem run_op {L : Nat → Int} {a b : List Tk} {k : Nat} (hk : (2 ≤ k ∧ k ≤ 8) ∨ k = 10 ∨ k = 11) {x y : Int} (hg : gdB k x y = true) (ha : ∀ st, run L a st = some (x :: st)) (hb : ∀ st, run L b st = some (y :: st)) (st : List Int) : run L (a ++ (b ++ [(k, 0)])) st = some (opI k x y :: st) := by
  rw [run_app, ha]
  show run L (b ++ [(k, 0)]) (x :: st) = _
  rw [run_app, hb]
  show run L [(k, 0)] (y :: x :: st) = _
  rw [run, stp_op hk hg]
  rfl
theorem mem_op {a b : List Tk} {k : Nat} (hk : k ≤ 11 ∧ ¬ k = 1) (ha : ∀ x ∈ a, tkOk x) (hb : ∀ x ∈ b, tkOk x) : ∀ x ∈ a ++ (b ++ [(k, 0)]), tkOk x := by
  intro x hx
  rcases List.mem_append.mp hx with h | h
  · exact ha x h
  · rcases List.mem_append.mp h with h | h
    · exact hb x h
    · have : x = (k, 0) := by simpa using h
      subst this
      exact ⟨hk.1, Nat.zero_le _, fun z => absurd z hk.2⟩
theorem cnt_op {a b : List Tk} {k : Nat} (hk : (2 ≤ k ∧ k ≤ 8) ∨ k = 10 ∨ k = 11) (ha : opn a = bnn a + 1) (hb : opn b = bnn b + 1) : opn (a ++ (b ++ [(k, 0)])) = bnn (a ++ (b ++ [(k, 0)])) + 1 := by
  have e1 : opn [(k, 0)] = 0 := by unfold opn; rw [if_neg (show ¬ (k, 0).1 ≤ 1 by show ¬ k ≤ 1; omega)]; rfl
  have e2 : bnn [(k, 0)] = 1 := by unfold bnn; rw [if_neg (show ¬ ((k, 0).1 ≤ 1 ∨ (k, 0).1 = 9) by show ¬ (k ≤ 1 ∨ k = 9); omega)]; rfl
  rw [opn_app, opn_app, bnn_app, bnn_app, e1, e2]; omega
theorem vS_op {a b : List Tk} {k : Nat} (hk : 2 ≤ k ∧ k ≤ 5) (ha : vS a) (hb : vS b) : vS (a ++ (b ++ [(k, 0)])) := by
  refine ⟨mem_op (by omega) ha.1 hb.1, cnt_op (by omega) ha.2.1 hb.2.1, fun L hL => ?_⟩
  obtain ⟨x, x1, x2⟩ := ha.2.2 L hL
  obtain ⟨y, y1, y2⟩ := hb.2.2 L hL
  exact ⟨opI k x y, opI_S hk x1, run_op (by omega) (gdO_S (by omega) x1 y1) x2 y2⟩
theorem vC_cmp {a b : List Tk} {k : Nat} (hk : 6 ≤ k ∧ k ≤ 8) (ha : vS a) (hb : vS b) : vC (a ++ (b ++ [(k, 0)])) := by
  refine ⟨mem_op (by omega) ha.1 hb.1, cnt_op (by omega) ha.2.1 hb.2.1, fun L hL => ?_⟩
  obtain ⟨x, x1, x2⟩ := ha.2.2 L hL
  obtain ⟨y, y1, y2⟩ := hb.2.2 L hL
  exact ⟨opI k x y, opI_C (by omega) x y, run_op (by omega) (gdO_S (by omega) x1 y1) x2 y2⟩
theorem vC_op {a b : List Tk} {k : Nat} (hk : k = 10 ∨ k = 11) (ha : vC a) (hb : vC b) : vC (a ++ (b ++ [(k, 0)])) := by
  refine ⟨mem_op (by omega) ha.1 hb.1, cnt_op (by omega) ha.2.1 hb.2.1, fun L hL => ?_⟩
  obtain ⟨x, x1, x2⟩ := ha.2.2 L hL
  obtain ⟨y, y1, y2⟩ := hb.2.2 L hL
  exact ⟨opI k x y, opI_C (by omega) x y, run_op (by omega) (gdO_C hk x1 y1) x2 y2⟩
theorem vC_not {a : List Tk} (ha : vC a) : vC (a ++ [(9, 0)]) := by
  refine ⟨fun x hx => ?_, ?_, fun L hL => ?_⟩
  · rcases List.mem_append.mp hx with h | h
    · exact ha.1 x h
    · have : x = (9, 0) := by simpa using h
      subst this
      exact ⟨by decide, by decide, fun z => absurd z (by decide)⟩
  · rw [opn_app, bnn_app]
    have := ha.2.1
    show opn a + 0 = bnn a + 0 + 1
    omega
  · obtain ⟨x, x1, x2⟩ := ha.2.2 L hL
    refine ⟨1 - x, by omega, fun st => ?_⟩
    rw [run_app, x2]
    show (stp L (9, 0) (x :: st)).bind (run L []) = _
    unfold stp
    rw [if_neg (by decide), if_neg (by decide), if_pos rfl]
    simp only
    rw [if_pos x1]; rfl
theorem vS_num {v : Nat} (h : v ≤ 9999) : vS [(0, v)] := by
  refine ⟨fun x hx => ?_, rfl, fun L hL => ⟨(v : Int), by omega, fun st => rfl⟩⟩
  have : x = (0, v) := by simpa using hx
  subst this
  exact ⟨by show 0 ≤ 11; omega, h, fun z => absurd (show (0 : Nat) = 1 from z) (by decide)⟩
theorem vS_let {l : Nat} (h : l < 6) : vS [(1, l)] := by
  refine ⟨fun x hx => ?_, rfl, fun L hL => ⟨L l, hL l, fun st => rfl⟩⟩
  have : x = (1, l) := by simpa using hx
  subst this
  exact ⟨by show 1 ≤ 11; omega, by show l ≤ 9999; omega, fun _ => h⟩
