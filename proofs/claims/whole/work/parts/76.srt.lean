/-! lists over ranges of ints; a list laid in order, by inserting from behind -/
def lsUp {α : Type} (f : Int → List α) (a : Int) : Nat → List α
  | 0 => []
  | n + 1 => f a ++ lsUp f (a + 1) n
theorem lsUp_congr {α : Type} {f g : Int → List α} : ∀ (n : Nat) (a : Int), (∀ k : Int, a ≤ k → k < a + n → f k = g k) → lsUp f a n = lsUp g a n
  | 0, _, _ => rfl
  | n + 1, a, h => by
    rw [lsUp, lsUp, h a (by omega) (by omega), lsUp_congr n (a + 1) (fun k h1 h2 => h k (by omega) (by omega))]
theorem lsUp_nil {α : Type} {f : Int → List α} : ∀ (n : Nat) (a : Int), (∀ k : Int, a ≤ k → k < a + n → f k = []) → lsUp f a n = []
  | 0, _, _ => rfl
  | n + 1, a, h => by
    rw [lsUp, h a (by omega) (by omega), lsUp_nil n (a + 1) (fun k h1 h2 => h k (by omega) (by omega))]; rfl
theorem lsUp_add {α : Type} {f : Int → List α} (m : Nat) : ∀ (n : Nat) (a : Int), lsUp f a (n + m) = lsUp f a n ++ lsUp f (a + n) m
  | 0, a => by simp [lsUp]
  | n + 1, a => by
    rw [show n + 1 + m = (n + m) + 1 by omega, lsUp, lsUp, lsUp_add m n (a + 1), show a + 1 + (n : Int) = a + ((n + 1 : Nat) : Int) by omega, List.append_assoc]
theorem lsUp_mid {α : Type} {f : Int → List α} {a b : Int} {n m : Nat} (h1 : a ≤ b) (h2 : b + m ≤ a + n) (hl : ∀ k : Int, a ≤ k → k < b → f k = []) (hr : ∀ k : Int, b + m ≤ k → k < a + n → f k = []) : lsUp f a n = lsUp f b m := by
  obtain ⟨u, hu⟩ : ∃ u : Nat, b = a + u := ⟨(b - a).toNat, by omega⟩
  obtain ⟨v, hv⟩ : ∃ v : Nat, n = u + (m + v) := ⟨n - u - m, by omega⟩
  subst hv
  rw [lsUp_add, lsUp_add, lsUp_nil u a (fun k q1 q2 => hl k q1 (by omega)), lsUp_nil v _ (fun k q1 q2 => hr k (by omega) (by omega)), ← hu, List.append_nil, List.nil_append]
theorem lsUp_len {α : Type} {f : Int → List α} {c : Nat} : ∀ (n : Nat) (a : Int), (∀ k : Int, a ≤ k → k < a + n → (f k).length = c) → (lsUp f a n).length = n * c
  | 0, _, _ => by simp [lsUp]
  | n + 1, a, h => by
    rw [lsUp, List.length_append, h a (by omega) (by omega), lsUp_len n (a + 1) (fun k h1 h2 => h k (by omega) (by omega)), Nat.add_mul]; omega
section SRT
variable {α : Type} (f : α → Int)
def srOk (E L : List α) : Prop := L.Pairwise (fun x y => f x ≤ f y) ∧ (∀ v : Int, L.filter (fun x => decide (f x = v)) = E.filter (fun x => decide (f x = v))) ∧ (∀ p : α → Bool, L.countP p = E.countP p)
def insF (L : List α) (x : α) : List α := L.filter (fun y => decide (f y ≤ f x)) ++ x :: L.filter (fun y => decide (f x < f y))
def nSrt (E : List α) : List α := E.foldl (insF f) []
theorem split_srt {L : List α} (hL : L.Pairwise (fun x y => f x ≤ f y)) (v : Int) : L = L.filter (fun y => decide (f y ≤ v)) ++ L.filter (fun y => decide (v < f y)) := by
  induction L with
  | nil => rfl
  | cons y r ih =>
    obtain ⟨h1, h2⟩ := List.pairwise_cons.mp hL
    by_cases q : f y ≤ v
    · rw [List.filter_cons_of_pos (by simpa using q), List.filter_cons_of_neg (by simp; omega), List.cons_append, ← ih h2]
    · have e1 : (y :: r).filter (fun y => decide (f y ≤ v)) = [] := by
        refine List.filter_eq_nil_iff.mpr (fun z hz => ?_)
        rcases List.mem_cons.mp hz with rfl | hz
        · simpa using q
        · have := h1 z hz; simp; omega
      have e2 : (y :: r).filter (fun y => decide (v < f y)) = y :: r := by
        refine List.filter_eq_self.mpr (fun z hz => ?_)
        rcases List.mem_cons.mp hz with rfl | hz
        · simp; omega
        · have := h1 z hz; simp; omega
      rw [e1, e2, List.nil_append]
theorem insF_ok {E L : List α} (h : srOk f E L) (x : α) : srOk f (E ++ [x]) (insF f L x) := by
  obtain ⟨h1, h2, h3⟩ := h
  have sp := split_srt f h1 (f x)
  refine ⟨?_, fun v => ?_, fun p => ?_⟩
  · unfold insF
    refine List.pairwise_append.mpr ⟨h1.filter _, List.pairwise_cons.mpr ⟨fun y hy => ?_, h1.filter _⟩, fun a ha b hb => ?_⟩
    · have := (List.mem_filter.mp hy).2; simp at this; omega
    · have ha := (List.mem_filter.mp ha).2
      simp only [decide_eq_true_eq] at ha
      rcases List.mem_cons.mp hb with rfl | hb
      · exact ha
      · have hb := (List.mem_filter.mp hb).2
        simp only [decide_eq_true_eq] at hb
        omega
  · rw [List.filter_append, ← h2 v]
    unfold insF
    rw [List.filter_append]
    by_cases q : f x = v
    · rw [List.filter_cons_of_pos (by simpa using q)]
      have e1 : (L.filter (fun y => decide (f x < f y))).filter (fun y => decide (f y = v)) = [] := by
        refine List.filter_eq_nil_iff.mpr (fun z hz => ?_)
        have := (List.mem_filter.mp hz).2; simp at this; simp; omega
      have e2 : (L.filter (fun y => decide (f y ≤ f x))).filter (fun y => decide (f y = v)) = L.filter (fun y => decide (f y = v)) := by
        rw [List.filter_filter]
        refine List.filter_congr (fun z _ => ?_)
        by_cases z1 : f z = v
        · simp [z1]; omega
        · simp [z1]
      rw [e1, e2, List.filter_cons_of_pos (by simpa using q), List.filter_nil]
    · rw [List.filter_cons_of_neg (by simpa using q), ← List.filter_append, ← sp, List.filter_cons_of_neg (by simpa using q), List.filter_nil, List.append_nil]
  · rw [List.countP_append, ← h3 p]
    unfold insF
    have sp' := congrArg (List.countP p) sp
    rw [List.countP_append] at sp'
    rw [List.countP_append, List.countP_cons, sp', List.countP_cons, List.countP_nil]
    omega
theorem srt_fold : ∀ (E' E L : List α), srOk f E L → srOk f (E ++ E') (E'.foldl (insF f) L)
  | [], E, L, h => by rw [List.append_nil]; exact h
  | x :: r, E, L, h => by
    have := srt_fold r (E ++ [x]) (insF f L x) (insF_ok f h x)
    rw [List.append_assoc] at this
    exact this
theorem nSrt_ok (E : List α) : srOk f E (nSrt f E) := by
  have := srt_fold f E [] [] ⟨List.Pairwise.nil, fun _ => rfl, fun _ => rfl⟩
  exact this
theorem srt_len {E L : List α} (h : srOk f E L) : L.length = E.length := by
  have := h.2.2 (fun _ => true)
  simpa using this
theorem insF_len {L : List α} (hL : L.Pairwise (fun x y => f x ≤ f y)) (x : α) : (insF f L x).length = L.length + 1 := by
  have sp := congrArg List.length (split_srt f hL (f x))
  rw [List.length_append] at sp
  unfold insF
  rw [List.length_append, List.length_cons]
  omega
/-- which one stands at a place of the laid list -/
theorem srt_at {E L : List α} (h : srOk f E L) {n : Nat} {x : α} (hx : L[n]? = some x) : E.countP (fun y => decide (f y ≤ f x - 1)) ≤ n ∧ n < E.countP (fun y => decide (f y ≤ f x)) ∧ (E.filter (fun y => decide (f y = f x)))[n - E.countP (fun y => decide (f y ≤ f x - 1))]? = some x := by
  obtain ⟨h1, h2, h3⟩ := h
  rw [← h3, ← h3, ← h2]
  obtain ⟨hn, hx'⟩ := List.getElem?_eq_some_iff.mp hx
  have sp : L = L.take n ++ x :: L.drop (n + 1) := by
    rw [← hx', List.getElem_cons_drop, List.take_append_drop]
  have pw := h1
  rw [sp] at pw
  obtain ⟨p1, p2, p3⟩ := List.pairwise_append.mp pw
  obtain ⟨p4, p5⟩ := List.pairwise_cons.mp p2
  have la : ∀ y ∈ L.take n, f y ≤ f x := fun y hy => p3 y hy x List.mem_cons_self
  have len : (L.take n).length = n := by rw [List.length_take]; omega
  have c1 : L.countP (fun y => decide (f y ≤ f x - 1)) = (L.take n).countP (fun y => decide (f y ≤ f x - 1)) := by
    conv => lhs; rw [sp]
    rw [List.countP_append, List.countP_cons_of_neg (by simp; omega)]
    have : (L.drop (n + 1)).countP (fun y => decide (f y ≤ f x - 1)) = 0 := by
      refine List.countP_eq_zero.mpr (fun y hy => ?_)
      have := p4 y hy; simp; omega
    omega
  have c2 : n < L.countP (fun y => decide (f y ≤ f x)) := by
    conv => rhs; rw [sp]
    rw [List.countP_append, List.countP_cons_of_pos (by simp)]
    have : (L.take n).countP (fun y => decide (f y ≤ f x)) = (L.take n).length := by
      refine List.countP_eq_length.mpr (fun y hy => ?_)
      have := la y hy; simpa using this
    omega
  have c3 : (L.take n).countP (fun y => decide (f y ≤ f x - 1)) + ((L.take n).filter (fun y => decide (f y = f x))).length = n := by
    rw [← List.countP_eq_length_filter]
    have key : ∀ l : List α, (∀ y ∈ l, f y ≤ f x) → l.countP (fun y => decide (f y ≤ f x - 1)) + l.countP (fun y => decide (f y = f x)) = l.length := by
      intro l
      induction l with
      | nil => intro _; rfl
      | cons y r ih =>
        intro hl
        have ih := ih (fun z hz => hl z (List.mem_cons_of_mem _ hz))
        have hy := hl y List.mem_cons_self
        by_cases q : f y = f x
        · rw [List.countP_cons_of_neg (by simp; omega), List.countP_cons_of_pos (by simpa using q), List.length_cons]; omega
        · rw [List.countP_cons_of_pos (by simp; omega), List.countP_cons_of_neg (by simpa using q), List.length_cons]; omega
    rw [key _ la, len]
  refine ⟨?_, c2, ?_⟩
  · rw [c1]; omega
  · rw [c1]
    have e : L.filter (fun y => decide (f y = f x)) = (L.take n).filter (fun y => decide (f y = f x)) ++ x :: (L.drop (n + 1)).filter (fun y => decide (f y = f x)) := by
      conv => lhs; rw [sp]
      rw [List.filter_append, List.filter_cons_of_pos (by simp)]
    rw [e, show n - (L.take n).countP (fun y => decide (f y ≤ f x - 1)) = ((L.take n).filter (fun y => decide (f y = f x))).length by omega, List.getElem?_append_right (Nat.le_refl _), Nat.sub_self]
    rfl
theorem cnt_mono (E : List α) {u v : Int} (h : u ≤ v) : E.countP (fun y => decide (f y ≤ u)) ≤ E.countP (fun y => decide (f y ≤ v)) := by
  refine List.countP_mono_left (fun x _ hx => ?_)
  simp only [decide_eq_true_eq] at hx ⊢
  omega
/-- how many ahead of the first that is farther -/
theorem srt_pre {L : List α} (hL : L.Pairwise (fun x y => f x ≤ f y)) (v : Int) {n : Nat} (h1 : ∀ k x, k < n → L[k]? = some x → f x ≤ v) (hn : n ≤ L.length) (h2 : ∀ x, L[n]? = some x → v < f x) : L.countP (fun y => decide (f y ≤ v)) = n := by
  have sp : L = L.take n ++ L.drop n := (List.take_append_drop n L).symm
  have a : (L.take n).countP (fun y => decide (f y ≤ v)) = (L.take n).length := by
    refine List.countP_eq_length.mpr (fun y hy => ?_)
    obtain ⟨k, hk⟩ := List.getElem?_of_mem hy
    have hk2 : k < n := by
      have := (List.getElem?_eq_some_iff.mp hk).1
      rw [List.length_take] at this; omega
    rw [List.getElem?_take_of_lt hk2] at hk
    have := h1 k y hk2 hk
    simpa using this
  have b : (L.drop n).countP (fun y => decide (f y ≤ v)) = 0 := by
    refine List.countP_eq_zero.mpr (fun y hy => ?_)
    have pw := hL
    rw [sp] at pw
    obtain ⟨-, p2, -⟩ := List.pairwise_append.mp pw
    cases hd : L.drop n with
    | nil => rw [hd] at hy; cases hy
    | cons z r =>
      rw [hd] at hy p2
      have hz : L[n]? = some z := by
        have : (L.drop n)[0]? = some z := by rw [hd]; rfl
        rwa [List.getElem?_drop, Nat.add_zero] at this
      have hz := h2 z hz
      rcases List.mem_cons.mp hy with rfl | hy
      · simp; omega
      · have := (List.pairwise_cons.mp p2).1 y hy
        simp; omega
  conv => lhs; rw [sp]
  rw [List.countP_append, a, b, List.length_take]; omega
end SRT
