/-! ===== laws: tokens, what they give ===== -/
/-- a token: (0, v) a number, (1, j) a name, (2, _) not, (3, p) a sign: | & < = > + - * / % -/
abbrev Tk : Type := Nat × Nat
def cT : Tk → Int32
  | (0, v) => nI v
  | (1, j) => nI j - 3
  | (2, _) => -4
  | (_, p) => -5 - nI p
def sgT (p : Nat) : Int32 := ([124, 38, 60, 61, 62, 43, 45, 42, 47, 37] : List Int32).getD p 0
def nmT (u j : Nat) : Int32 := ([104, 110, 103, 114, 99, 121] : List Int32).getD (3 * u + j) 0
def wT : Tk → Int32
  | (k, _) => nI k
def vT (u : Nat) : Tk → Int32
  | (0, v) => nI v
  | (1, j) => nmT u j
  | (2, _) => 0
  | (_, p) => sgT p
def okT : Tk → Prop
  | (0, v) => v ≤ 9999
  | (1, j) => j < 3
  | (2, _) => True
  | (3, p) => p < 10
  | _ => False
def wfd : Nat → List Tk → Option Nat
  | d, [] => some d
  | d, (0, _) :: l => wfd (d + 1) l
  | d, (1, _) :: l => wfd (d + 1) l
  | d, (2, _) :: l => if 1 ≤ d then wfd d l else none
  | d, (_, _) :: l => if 2 ≤ d then wfd (d - 1) l else none
def jn (p : Nat) (x y : Int32) : Int32 := match p with
  | 0 => if x = 0 then (if y = 0 then 0 else 1) else 1
  | 1 => if x = 0 then 0 else (if y = 0 then 0 else 1)
  | 2 => if y ≤ x then 0 else 1
  | 3 => if x = y then 1 else 0
  | 4 => if x ≤ y then 0 else 1
  | 5 => x + y
  | 6 => x - y
  | 7 => x * y
  | 8 => if y = 0 then 0 else x / y
  | _ => if y = 0 then 0 else x % y
def nmv (j : Nat) (a b c : Int32) : Int32 := if j = 0 then a else if j = 1 then b else c
def ev (a b c : Int32) : List Int32 → List Tk → List Int32
  | st, [] => st
  | st, (0, v) :: l => ev a b c (nI v :: st) l
  | st, (1, j) :: l => ev a b c (nmv j a b c :: st) l
  | x :: st, (2, _) :: l => ev a b c ((if x = 0 then 1 else 0) :: st) l
  | y :: x :: st, (_, p) :: l => ev a b c (jn p x y :: st) l
  | st, _ :: l => ev a b c st l
def clampL (x : Int32) : Int32 := sk_max 0 (sk_min 99 x)
def pGive (u : Nat) (lw : Option (List Tk)) (a b c : Int32) : Int32 := clampL (match lw with
  | none => if u = 0 then a else 1
  | some L => (ev a b c [] L).headD 0)
/-- a law, in the class's cells q (its code in qc) and in the reference's row -/
def RLw (τ : sk_T) (q qc : Nat) (s : Nat → Int32) (u : Nat) (lw : Option (List Tk)) : Prop :=
  τ q 0 = nI u ∧ match lw with
  | none => τ q 1 &&& 1 = 0 ∧ s (78 + 125 * u) = 0
  | some L => τ q 1 &&& 1 = 1 ∧ τ q 3 = nI L.length ∧ 0 < L.length ∧ L.length ≤ 60 ∧ wfd 0 L = some 1 ∧ s (78 + 125 * u) = nI L.length ∧
    ∀ i t, L[i]? = some t → okT t ∧ τ qc i = cT t ∧ s (78 + 125 * u + 1 + 2 * i) = wT t ∧ s (78 + 125 * u + 2 + 2 * i) = vT u t
/-- a row holds a stack (its top first) -/
def SA (f : Nat → Int32) (st : List Int32) : Prop := ∀ j x, st[j]? = some x → f (st.length - 1 - j) = x
theorem SA_nil (f : Nat → Int32) : SA f [] := fun j x h => by simp at h
theorem SA_push {f : Nat → Int32} {st : List Int32} (h : SA f st) (x : Int32) : SA (upd f st.length x) (x :: st) := by
  intro j y hj
  cases j with
  | zero => simp at hj; subst hj; simp [upd]
  | succ j =>
    simp at hj
    have hl : j < st.length := (List.getElem?_eq_some_iff.mp hj).1
    have e : (x :: st).length - 1 - (j + 1) = st.length - 1 - j := by simp only [List.length_cons]; omega
    rw [e]
    unfold upd
    rw [if_neg (by omega)]
    exact h j y hj
theorem SA_top {f : Nat → Int32} {st : List Int32} {x : Int32} (h : SA f (x :: st)) : f st.length = x := by
  have := h 0 x rfl
  simpa using this
theorem SA_snd {f : Nat → Int32} {st : List Int32} {x y : Int32} (h : SA f (y :: x :: st)) : f st.length = x := by
  have := h 1 x rfl
  simpa using this
theorem SA_tl {f : Nat → Int32} {st : List Int32} {x : Int32} (h : SA f (x :: st)) : SA f st := by
  intro j y hj
  have hl : j < st.length := (List.getElem?_eq_some_iff.mp hj).1
  have := h (j + 1) y (by simpa using hj)
  have e : (x :: st).length - 1 - (j + 1) = st.length - 1 - j := by simp only [List.length_cons]; omega
  rw [e] at this
  exact this
theorem cT_num {v : Nat} (h : v ≤ 9999) : ¬ nI v = -4 ∧ (-4 : Int32) ≤ nI v ∧ ¬ nI v ≤ -4 ∧ ¬ nI v = -3 ∧ ¬ nI v = -2 ∧ ¬ nI v = -1 := by
  have e := nI_toInt (n := v) (by omega)
  have e4 : (-4 : Int32).toInt = -4 := rfl
  have e3 : (-3 : Int32).toInt = -3 := rfl
  have e2 : (-2 : Int32).toInt = -2 := rfl
  have e1 : (-1 : Int32).toInt = -1 := rfl
  refine ⟨fun z => ?_, ?_, fun z => ?_, fun z => ?_, fun z => ?_, fun z => ?_⟩
  · rw [z, e4] at e; omega
  · rw [Int32.le_iff_toInt_le, e, e4]; omega
  · rw [Int32.le_iff_toInt_le, e, e4] at z; omega
  · rw [z, e3] at e; omega
  · rw [z, e2] at e; omega
  · rw [z, e1] at e; omega
theorem div_m1 (x : Int32) : x / -1 = -x := by
  apply Int32.toInt_inj.mp
  rw [Int32.toInt_div, show (-1 : Int32).toInt = -1 from rfl, Int32.toInt_neg, Int.tdiv_neg, Int.tdiv_one]
theorem mod_m1 (x : Int32) : x % -1 = 0 := by
  apply Int32.toInt_inj.mp
  rw [Int32.toInt_mod, show (-1 : Int32).toInt = -1 from rfl, show (0 : Int32).toInt = 0 from rfl]
  exact Int.tmod_neg x.toInt 1 ▸ Int.tmod_one _
section
variable {d : Nat} {τ : sk_T} {K : sk_K}
theorem pX1_worthN {v : Nat} {a b c : Int32} (hv : v ≤ 9999) (h : K (some (.int (nI v))) τ) : sk_C sk_Sc d mX1_worth [.int (cT (0, v)), .int a, .int b, .int c] τ K := by
  obtain ⟨-, -, -, h3, h2, h1⟩ := cT_num (v := v) hv
  exact wX1_worth ⟨fun e => absurd e h3, fun e => absurd e h2, fun e => absurd e h1, fun _ => h⟩
theorem pX1_worthM {j : Nat} {a b c : Int32} (hj : j < 3) (h : K (some (.int (nmv j a b c))) τ) : sk_C sk_Sc d mX1_worth [.int (cT (1, j)), .int a, .int b, .int c] τ K := by
  rcases (show j = 0 ∨ j = 1 ∨ j = 2 by omega) with rfl | rfl | rfl
  · exact wX1_worth ⟨fun _ => h, fun e => absurd e (by decide), fun e => absurd e (by decide), fun e => absurd (by decide) e.1⟩
  · exact wX1_worth ⟨fun e => absurd e (by decide), fun _ => h, fun e => absurd e (by decide), fun e => absurd (by decide) e.2.1⟩
  · exact wX1_worth ⟨fun e => absurd e (by decide), fun e => absurd e (by decide), fun _ => h, fun e => absurd (by decide) e.2.2⟩

theorem pX1_join {p : Nat} {x y : Int32} (hp : p < 10) (h : K (some (.int (jn p x y))) τ) : sk_C sk_Sc d mX1_join [.int (cT (3, p)), .int x, .int y] τ K := by
  refine wX1_join ?_
  match p, hp, h with
  | 0, _, h =>
    have h : K (some (.int (if x = 0 then (if y = 0 then 0 else 1) else 1))) τ := h
    exact ⟨fun e => absurd e (by decide), fun e => absurd e (by decide), fun e => absurd e (by decide), fun e => absurd e (by decide), fun e => absurd e (by decide), fun e => absurd e (by decide), fun e => absurd e (by decide), fun e => absurd e (by decide), fun e => absurd e (by decide), fun _ => ⟨fun z => by rw [if_neg z] at h; exact h, fun z => by rw [if_pos z] at h; exact ⟨fun z2 => by rw [if_pos z2] at h; exact h, fun z2 => by rw [if_neg z2] at h; exact h⟩⟩, fun e => absurd rfl e.2.2.2.2.2.2.2.2.2⟩
  | 1, _, h =>
    have h : K (some (.int (if x = 0 then 0 else (if y = 0 then 0 else 1)))) τ := h
    exact ⟨fun e => absurd e (by decide), fun e => absurd e (by decide), fun e => absurd e (by decide), fun e => absurd e (by decide), fun e => absurd e (by decide), fun e => absurd e (by decide), fun e => absurd e (by decide), fun e => absurd e (by decide), fun _ => ⟨fun z => by rw [if_pos z] at h; exact h, fun z => by rw [if_neg z] at h; exact ⟨fun z2 => by rw [if_pos z2] at h; exact h, fun z2 => by rw [if_neg z2] at h; exact h⟩⟩, fun e => absurd e (by decide), fun e => absurd rfl e.2.2.2.2.2.2.2.2.1⟩
  | 2, _, h =>
    have h : K (some (.int (if y ≤ x then 0 else 1))) τ := h
    exact ⟨fun e => absurd e (by decide), fun e => absurd e (by decide), fun e => absurd e (by decide), fun e => absurd e (by decide), fun e => absurd e (by decide), fun e => absurd e (by decide), fun e => absurd e (by decide), fun _ => ⟨fun z => by rw [if_pos z] at h; exact h, fun z => by rw [if_neg z] at h; exact h⟩, fun e => absurd e (by decide), fun e => absurd e (by decide), fun e => absurd rfl e.2.2.2.2.2.2.2.1⟩
  | 3, _, h =>
    have h : K (some (.int (if x = y then 1 else 0))) τ := h
    exact ⟨fun e => absurd e (by decide), fun e => absurd e (by decide), fun e => absurd e (by decide), fun e => absurd e (by decide), fun e => absurd e (by decide), fun e => absurd e (by decide), fun _ => ⟨fun z => by rw [if_neg z] at h; exact h, fun z => by rw [if_pos z] at h; exact h⟩, fun e => absurd e (by decide), fun e => absurd e (by decide), fun e => absurd e (by decide), fun e => absurd rfl e.2.2.2.2.2.2.1⟩
  | 4, _, h =>
    have h : K (some (.int (if x ≤ y then 0 else 1))) τ := h
    exact ⟨fun e => absurd e (by decide), fun e => absurd e (by decide), fun e => absurd e (by decide), fun e => absurd e (by decide), fun e => absurd e (by decide), fun _ => ⟨fun z => by rw [if_pos z] at h; exact h, fun z => by rw [if_neg z] at h; exact h⟩, fun e => absurd e (by decide), fun e => absurd e (by decide), fun e => absurd e (by decide), fun e => absurd e (by decide), fun e => absurd rfl e.2.2.2.2.2.1⟩
  | 5, _, h =>
    have h : K (some (.int (x + y))) τ := h
    exact ⟨fun e => absurd e (by decide), fun e => absurd e (by decide), fun e => absurd e (by decide), fun e => absurd e (by decide), fun _ => h, fun e => absurd e (by decide), fun e => absurd e (by decide), fun e => absurd e (by decide), fun e => absurd e (by decide), fun e => absurd e (by decide), fun e => absurd rfl e.2.2.2.2.1⟩
  | 6, _, h =>
    have h : K (some (.int (x - y))) τ := h
    exact ⟨fun e => absurd e (by decide), fun e => absurd e (by decide), fun e => absurd e (by decide), fun _ => h, fun e => absurd e (by decide), fun e => absurd e (by decide), fun e => absurd e (by decide), fun e => absurd e (by decide), fun e => absurd e (by decide), fun e => absurd e (by decide), fun e => absurd rfl e.2.2.2.1⟩
  | 7, _, h =>
    have h : K (some (.int (x * y))) τ := h
    exact ⟨fun e => absurd e (by decide), fun e => absurd e (by decide), fun _ => h, fun e => absurd e (by decide), fun e => absurd e (by decide), fun e => absurd e (by decide), fun e => absurd e (by decide), fun e => absurd e (by decide), fun e => absurd e (by decide), fun e => absurd e (by decide), fun e => absurd rfl e.2.2.1⟩
  | 8, _, h =>
    have h : K (some (.int (if y = 0 then 0 else x / y))) τ := h
    exact ⟨fun e => absurd e (by decide), fun _ => ⟨fun z => by rw [if_neg z] at h; exact ⟨z, h⟩, fun z => by rw [if_pos z] at h; exact h⟩, fun e => absurd e (by decide), fun e => absurd e (by decide), fun e => absurd e (by decide), fun e => absurd e (by decide), fun e => absurd e (by decide), fun e => absurd e (by decide), fun e => absurd e (by decide), fun e => absurd e (by decide), fun e => absurd rfl e.2.1⟩
  | 9, _, h =>
    have h : K (some (.int (if y = 0 then 0 else x % y))) τ := h
    exact ⟨fun _ => ⟨fun z => by rw [if_neg z] at h; exact ⟨z, h⟩, fun z => by rw [if_pos z] at h; exact h⟩, fun e => absurd e (by decide), fun e => absurd e (by decide), fun e => absurd e (by decide), fun e => absurd e (by decide), fun e => absurd e (by decide), fun e => absurd e (by decide), fun e => absurd e (by decide), fun e => absurd e (by decide), fun e => absurd e (by decide), fun e => absurd rfl e.1⟩
  | n + 10, hp, _ => exact absurd hp (by omega)
theorem pX7_joined {p : Nat} {x y : Int32} (hp : p < 10) (h : K (some (.int (jn p x y))) τ) : sk_C sk_Sm d mX7_joined [.int (sgT p), .int x, .int y] τ K := by
  refine wX7_joined ?_
  match p, hp, h with
  | 0, _, h =>
    have h : K (some (.int (if x = 0 then (if y = 0 then 0 else 1) else 1))) τ := h
    exact ⟨fun e => absurd e (by decide), fun e => absurd e (by decide), fun e => absurd e (by decide), fun e => absurd e (by decide), fun e => absurd e (by decide), fun e => absurd e (by decide), fun e => absurd e (by decide), fun e => absurd e (by decide), fun e => absurd e (by decide), fun e => absurd e (by decide), fun e => absurd e (by decide), fun e => absurd e (by decide), fun e => absurd e (by decide), fun e => absurd e (by decide), fun e => absurd e (by decide), fun e => absurd e (by decide), fun e => absurd e (by decide), fun e => absurd e (by decide), fun e => absurd e (by decide), fun e => absurd e (by decide), fun e => absurd e (by decide), fun e => absurd e (by decide), fun e => absurd e (by decide), fun e => absurd e (by decide), fun e => absurd e (by decide), fun e => absurd e (by decide), fun _ => ⟨fun z => by rw [if_neg z] at h; exact h, fun z => by rw [if_pos z] at h; exact ⟨fun z2 => by rw [if_pos z2] at h; exact h, fun z2 => by rw [if_neg z2] at h; exact h⟩⟩⟩
  | 1, _, h =>
    have h : K (some (.int (if x = 0 then 0 else (if y = 0 then 0 else 1)))) τ := h
    exact ⟨fun e => absurd e (by decide), fun _ => ⟨fun z => by rw [if_pos z] at h; exact h, fun z => by rw [if_neg z] at h; exact ⟨fun z2 => by rw [if_pos z2] at h; exact h, fun z2 => by rw [if_neg z2] at h; exact h⟩⟩, fun e => absurd e (by decide), fun e => absurd e (by decide), fun e => absurd e (by decide), fun e => absurd e (by decide), fun e => absurd e (by decide), fun e => absurd e (by decide), fun e => absurd e (by decide), fun e => absurd e (by decide), fun e => absurd e (by decide), fun e => absurd e (by decide), fun e => absurd e (by decide), fun e => absurd e (by decide), fun e => absurd e (by decide), fun e => absurd e (by decide), fun e => absurd e (by decide), fun e => absurd e (by decide), fun e => absurd e (by decide), fun e => absurd e (by decide), fun e => absurd e (by decide), fun e => absurd e (by decide), fun e => absurd e (by decide), fun e => absurd e (by decide), fun e => absurd e (by decide), fun e => absurd e (by decide), fun e => absurd rfl e.2.1⟩
  | 2, _, h =>
    have h : K (some (.int (if y ≤ x then 0 else 1))) τ := h
    exact ⟨fun e => absurd e (by decide), fun e => absurd e (by decide), fun e => absurd e (by decide), fun e => absurd e (by decide), fun e => absurd e (by decide), fun e => absurd e (by decide), fun e => absurd e (by decide), fun e => absurd e (by decide), fun e => absurd e (by decide), fun e => absurd e (by decide), fun e => absurd e (by decide), fun e => absurd e (by decide), fun e => absurd e (by decide), fun e => absurd e (by decide), fun e => absurd e (by decide), fun e => absurd e (by decide), fun e => absurd e (by decide), fun e => absurd e (by decide), fun e => absurd e (by decide), fun e => absurd e (by decide), fun e => absurd e (by decide), fun e => absurd e (by decide), fun e => absurd e (by decide), fun _ => ⟨fun z => by rw [if_pos z] at h; exact h, fun z => by rw [if_neg z] at h; exact h⟩, fun e => absurd e (by decide), fun e => absurd e (by decide), fun e => absurd rfl e.2.2.2.2.2.2.2.2.2.2.2.2.2.2.2.2.2.2.2.2.2.2.2.1⟩
  | 3, _, h =>
    have h : K (some (.int (if x = y then 1 else 0))) τ := h
    exact ⟨fun e => absurd e (by decide), fun e => absurd e (by decide), fun e => absurd e (by decide), fun e => absurd e (by decide), fun e => absurd e (by decide), fun e => absurd e (by decide), fun e => absurd e (by decide), fun e => absurd e (by decide), fun e => absurd e (by decide), fun e => absurd e (by decide), fun e => absurd e (by decide), fun e => absurd e (by decide), fun e => absurd e (by decide), fun e => absurd e (by decide), fun e => absurd e (by decide), fun e => absurd e (by decide), fun e => absurd e (by decide), fun e => absurd e (by decide), fun e => absurd e (by decide), fun e => absurd e (by decide), fun e => absurd e (by decide), fun e => absurd e (by decide), fun e => absurd e (by decide), fun e => absurd e (by decide), fun _ => ⟨fun z => by rw [if_neg z] at h; exact h, fun z => by rw [if_pos z] at h; exact h⟩, fun e => absurd e (by decide), fun e => absurd rfl e.2.2.2.2.2.2.2.2.2.2.2.2.2.2.2.2.2.2.2.2.2.2.2.2.1⟩
  | 4, _, h =>
    have h : K (some (.int (if x ≤ y then 0 else 1))) τ := h
    exact ⟨fun e => absurd e (by decide), fun e => absurd e (by decide), fun e => absurd e (by decide), fun e => absurd e (by decide), fun e => absurd e (by decide), fun e => absurd e (by decide), fun e => absurd e (by decide), fun e => absurd e (by decide), fun e => absurd e (by decide), fun e => absurd e (by decide), fun e => absurd e (by decide), fun e => absurd e (by decide), fun e => absurd e (by decide), fun e => absurd e (by decide), fun e => absurd e (by decide), fun e => absurd e (by decide), fun e => absurd e (by decide), fun e => absurd e (by decide), fun e => absurd e (by decide), fun e => absurd e (by decide), fun e => absurd e (by decide), fun e => absurd e (by decide), fun e => absurd e (by decide), fun e => absurd e (by decide), fun e => absurd e (by decide), fun _ => ⟨fun z => by rw [if_pos z] at h; exact h, fun z => by rw [if_neg z] at h; exact h⟩, fun e => absurd rfl e.2.2.2.2.2.2.2.2.2.2.2.2.2.2.2.2.2.2.2.2.2.2.2.2.2⟩
  | 5, _, h =>
    have h : K (some (.int (x + y))) τ := h
    exact ⟨fun e => absurd e (by decide), fun e => absurd e (by decide), fun e => absurd e (by decide), fun e => absurd e (by decide), fun e => absurd e (by decide), fun e => absurd e (by decide), fun _ => h, fun e => absurd e (by decide), fun e => absurd e (by decide), fun e => absurd e (by decide), fun e => absurd e (by decide), fun e => absurd e (by decide), fun e => absurd e (by decide), fun e => absurd e (by decide), fun e => absurd e (by decide), fun e => absurd e (by decide), fun e => absurd e (by decide), fun e => absurd e (by decide), fun e => absurd e (by decide), fun e => absurd e (by decide), fun e => absurd e (by decide), fun e => absurd e (by decide), fun e => absurd e (by decide), fun e => absurd e (by decide), fun e => absurd e (by decide), fun e => absurd e (by decide), fun e => absurd rfl e.2.2.2.2.2.2.1⟩
  | 6, _, h =>
    have h : K (some (.int (x - y))) τ := h
    exact ⟨fun e => absurd e (by decide), fun e => absurd e (by decide), fun e => absurd e (by decide), fun e => absurd e (by decide), fun e => absurd e (by decide), fun e => absurd e (by decide), fun e => absurd e (by decide), fun e => absurd e (by decide), fun _ => h, fun e => absurd e (by decide), fun e => absurd e (by decide), fun e => absurd e (by decide), fun e => absurd e (by decide), fun e => absurd e (by decide), fun e => absurd e (by decide), fun e => absurd e (by decide), fun e => absurd e (by decide), fun e => absurd e (by decide), fun e => absurd e (by decide), fun e => absurd e (by decide), fun e => absurd e (by decide), fun e => absurd e (by decide), fun e => absurd e (by decide), fun e => absurd e (by decide), fun e => absurd e (by decide), fun e => absurd e (by decide), fun e => absurd rfl e.2.2.2.2.2.2.2.2.1⟩
  | 7, _, h =>
    have h : K (some (.int (x * y))) τ := h
    exact ⟨fun e => absurd e (by decide), fun e => absurd e (by decide), fun e => absurd e (by decide), fun e => absurd e (by decide), fun e => absurd e (by decide), fun _ => h, fun e => absurd e (by decide), fun e => absurd e (by decide), fun e => absurd e (by decide), fun e => absurd e (by decide), fun e => absurd e (by decide), fun e => absurd e (by decide), fun e => absurd e (by decide), fun e => absurd e (by decide), fun e => absurd e (by decide), fun e => absurd e (by decide), fun e => absurd e (by decide), fun e => absurd e (by decide), fun e => absurd e (by decide), fun e => absurd e (by decide), fun e => absurd e (by decide), fun e => absurd e (by decide), fun e => absurd e (by decide), fun e => absurd e (by decide), fun e => absurd e (by decide), fun e => absurd e (by decide), fun e => absurd rfl e.2.2.2.2.2.1⟩
  | 8, _, h =>
    have h : K (some (.int (if y = 0 then 0 else x / y))) τ := h
    exact ⟨fun e => absurd e (by decide), fun e => absurd e (by decide), fun e => absurd e (by decide), fun e => absurd e (by decide), fun e => absurd e (by decide), fun e => absurd e (by decide), fun e => absurd e (by decide), fun e => absurd e (by decide), fun e => absurd e (by decide), fun e => absurd e (by decide), fun _ => ⟨fun z => by rw [if_neg z] at h; exact ⟨fun z2 => ⟨z, h⟩, fun z2 => by rw [z2, div_m1] at h; exact h⟩, fun z => by rw [if_pos z] at h; exact h⟩, fun e => absurd e (by decide), fun e => absurd e (by decide), fun e => absurd e (by decide), fun e => absurd e (by decide), fun e => absurd e (by decide), fun e => absurd e (by decide), fun e => absurd e (by decide), fun e => absurd e (by decide), fun e => absurd e (by decide), fun e => absurd e (by decide), fun e => absurd e (by decide), fun e => absurd e (by decide), fun e => absurd e (by decide), fun e => absurd e (by decide), fun e => absurd e (by decide), fun e => absurd rfl e.2.2.2.2.2.2.2.2.2.2.1⟩
  | 9, _, h =>
    have h : K (some (.int (if y = 0 then 0 else x % y))) τ := h
    exact ⟨fun _ => ⟨fun z => by rw [if_pos z] at h; exact h, fun z => by rw [if_neg z] at h; exact ⟨fun z2 => ⟨z, h⟩, fun z2 => by rw [z2, mod_m1] at h; exact h⟩⟩, fun e => absurd e (by decide), fun e => absurd e (by decide), fun e => absurd e (by decide), fun e => absurd e (by decide), fun e => absurd e (by decide), fun e => absurd e (by decide), fun e => absurd e (by decide), fun e => absurd e (by decide), fun e => absurd e (by decide), fun e => absurd e (by decide), fun e => absurd e (by decide), fun e => absurd e (by decide), fun e => absurd e (by decide), fun e => absurd e (by decide), fun e => absurd e (by decide), fun e => absurd e (by decide), fun e => absurd e (by decide), fun e => absurd e (by decide), fun e => absurd e (by decide), fun e => absurd e (by decide), fun e => absurd e (by decide), fun e => absurd e (by decide), fun e => absurd e (by decide), fun e => absurd e (by decide), fun e => absurd e (by decide), fun e => absurd rfl e.1⟩
  | n + 10, hp, _ => exact absurd hp (by omega)
theorem okT_k : ∀ {t : Tk}, okT t → (∃ v, t = (0, v) ∧ v ≤ 9999) ∨ (∃ j, t = (1, j) ∧ j < 3) ∨ (∃ n, t = (2, n)) ∨ (∃ p, t = (3, p) ∧ p < 10)
  | (0, v), h => Or.inl ⟨v, rfl, h⟩
  | (1, j), h => Or.inr (Or.inl ⟨j, rfl, h⟩)
  | (2, n), _ => Or.inr (Or.inr (Or.inl ⟨n, rfl⟩))
  | (3, p), h => Or.inr (Or.inr (Or.inr ⟨p, rfl, h⟩))
  | (_ + 4, _), h => absurd h (fun z => z)
theorem su_w {τ : sk_T} {a j : Nat} {f : Nat → Int32} {x : Int32} : sk_u (sk_w τ a f) a j x = sk_w τ a (upd f j x) := by
  funext b
  unfold sk_u sk_w
  by_cases h : b = a
  · rw [if_pos h, if_pos h, if_pos rfl]
  · rw [if_neg h, if_neg h, if_neg h]
theorem sw_id {τ : sk_T} {a : Nat} : sk_w τ a (τ a) = τ := by
  funext b
  unfold sk_w
  by_cases h : b = a
  · rw [if_pos h, h]
  · rw [if_neg h]
theorem dr_at {L : List Tk} {i : Nat} {t : Tk} {L2 : List Tk} (h : L.drop i = t :: L2) : L[i]? = some t ∧ L.drop (i + 1) = L2 := by
  constructor
  · have := congrArg List.head? h
    simpa using this
  · have := congrArg List.tail h
    simpa using this
set_option maxHeartbeats 4000000 in
set_option maxRecDepth 100000 in
theorem lX1_workOut {q qc qs : Nat} (hq : sk_Sc[q]? = some (0, 1, [0, 1, qc + 2, 0, qs + 2])) (hqc : sk_Sc[qc]? = some (1, 60, [])) (hqs : sk_Sc[qs]? = some (1, 60, [])) (n1 : q ≠ qs) (n2 : qc ≠ qs) {a b c : Int32} {L : List Tk} (hd : 0 < d)
    (hsz : τ q 3 = nI L.length) (hlen : L.length ≤ 60) (htok : ∀ i t, L[i]? = some t → okT t ∧ τ qc i = cT t) :
    ∀ (L2 : List Tk) (i : Nat) (st : List Int32) (f : Nat → Int32), L.drop i = L2 → i + L2.length = L.length → st.length ≤ i → wfd st.length L2 = some 1 → SA f st → (∀ g, K (some (.int ((ev a b c st L2).headD 0))) (sk_w τ qs g)) →
    sk_G sk_Sc d mX1_workOut 6 [(0, .ref q), (1, .int a), (2, .int b), (3, .int c), (4, .int (nI st.length)), (5, .int (nI i))] [] (sk_w τ qs f) K := by
  intro L2
  induction L2 with
  | nil =>
    intro i st f hdr hi hst hw hS hK
    have hi2 : i = L.length := by simpa using hi
    refine bX1_workOut_6 hq hqc hqs hd (br_t ?_ ?_)
    · rw [sw_c n1, hsz, hi2]; exact (nI_leI (by omega) (by omega)).mpr (Nat.le_refl _)
    · rw [sw_s]
      have h1 : st.length = 1 := by simpa [wfd] using hw
      match st, h1 with
      | [x], _ =>
        have := SA_top hS
        have e : f 0 = x := by simpa using this
        rw [e]; exact hK f
  | cons t L2 ih =>
    intro i st f hdr hi hst hw hS hK
    obtain ⟨ht, hdr2⟩ := dr_at hdr
    obtain ⟨ok, hc⟩ := htok i t ht
    have hil : i < L.length := (List.getElem?_eq_some_iff.mp ht).1
    have hi2 : i + 1 + L2.length = L.length := by simp only [List.length_cons] at hi; omega
    refine bX1_workOut_6 hq hqc hqs hd (br_f ?_ ⟨vp_in_nI (by omega) (by omega), ?_⟩)
    · rw [sw_c n1, hsz]; exact fun z => absurd ((nI_leI (by omega) (by omega)).mp z) (by omega)
    rw [nI_clamp (show i < 2 ^ 31 by omega), sw_c n2, hc, nI_1 i]
    have h60 : ¬ (60 : Int32) ≤ nI st.length := fun z => absurd ((nI_leI (a := 60) (by omega) (by omega)).mp z) (by omega)
    have hvp : vp_in (nI st.length) 60 := vp_in_nI (by omega) (by omega)
    rcases okT_k ok with ⟨v, rfl, ok⟩ | ⟨j, rfl, ok⟩ | ⟨n, rfl⟩ | ⟨p, rfl, ok⟩
    ·
      obtain ⟨e1, e2, e3, -⟩ := cT_num (v := v) ok
      refine ns_t e1 (br_t e2 (br_f e3 (br_f h60 (pX1_worthN ok (ex_i ⟨hvp, ?_⟩)))))
      rw [nI_clamp (show st.length < 2 ^ 31 by omega), su_w, nI_1]
      exact ih (i + 1) (nI v :: st) _ hdr2 hi2 (by simp only [List.length_cons]; omega) hw (SA_push hS _) hK
    ·
      have ej : ∀ j, j < 3 → (¬ cT (1, j) = -4 ∧ (-4 : Int32) ≤ cT (1, j) ∧ ¬ cT (1, j) ≤ -4) := by decide
      obtain ⟨e1, e2, e3⟩ := ej j ok
      refine ns_t e1 (br_t e2 (br_f e3 (br_f h60 (pX1_worthM ok (ex_i ⟨hvp, ?_⟩)))))
      rw [nI_clamp (show st.length < 2 ^ 31 by omega), su_w, nI_1]
      exact ih (i + 1) (nmv j a b c :: st) _ hdr2 hi2 (by simp only [List.length_cons]; omega) hw (SA_push hS _) hK
    ·
      match st, hst, hw, hS, hK with
      | [], _, hw, _, _ => exact absurd hw (by simp [wfd])
      | x :: st, hst, hw, hS, hK =>
        simp only [List.length_cons] at hst
        have hw2 : wfd (st.length + 1) L2 = some 1 := by simpa [wfd] using hw
        have hx := SA_top hS
        have hv : vp_in (nI st.length) 60 := vp_in_nI (by omega) (by omega)
        refine ns_f rfl (br_f (fun z => absurd ((nI_ltI (b := 1) (by simp only [List.length_cons]; omega) (by omega)).mp z) (by simp only [List.length_cons]; omega)) ?_)
        show vp_in (nI (st.length + 1) - 1) 60 ∧ _
        simp only [List.length_cons, nI_m1]
        rw [nI_clamp (show st.length < 2 ^ 31 by omega), sw_s, hx, su_w, su_w]
        refine ⟨hv, fun z => ⟨hv, ?_⟩, fun z => ⟨hv, ?_⟩⟩
        · have hK2 : ∀ g, K (some (.int ((ev a b c ((if x = 0 then 1 else 0) :: st) L2).headD 0))) (sk_w τ qs g) := hK
          rw [if_neg z] at hK2
          exact ih (i + 1) (0 :: st) _ hdr2 hi2 (by simp only [List.length_cons]; omega) hw2 (SA_push (SA_tl hS) _) hK2
        · have hK2 : ∀ g, K (some (.int ((ev a b c ((if x = 0 then 1 else 0) :: st) L2).headD 0))) (sk_w τ qs g) := hK
          rw [if_pos z] at hK2
          exact ih (i + 1) (1 :: st) _ hdr2 hi2 (by simp only [List.length_cons]; omega) hw2 (SA_push (SA_tl hS) _) hK2
    ·
      match st, hst, hw, hS, hK with
      | [], _, hw, _, _ => exact absurd hw (by simp [wfd])
      | [x], _, hw, _, _ => exact absurd hw (by simp [wfd])
      | y :: x :: st, hst, hw, hS, hK =>
        simp only [List.length_cons] at hst
        have hw2 : wfd (st.length + 1) L2 = some 1 := by simpa [wfd] using hw
        have hy := SA_top hS
        have hx := SA_snd hS
        simp only [List.length_cons] at hy
        have ep : ∀ p, p < 10 → (¬ cT (3, p) = -4 ∧ ¬ (-4 : Int32) ≤ cT (3, p)) := by decide
        obtain ⟨e1, e2⟩ := ep p ok
        have hv : vp_in (nI st.length) 60 := vp_in_nI (by omega) (by omega)
        have hv1 : vp_in (nI (st.length + 1)) 60 := vp_in_nI (by omega) (by omega)
        refine ns_t e1 (br_f e2 (br_f (fun z => absurd ((nI_ltI (b := 2) (by simp only [List.length_cons]; omega) (by omega)).mp z) (by simp only [List.length_cons]; omega)) ?_))
        simp only [List.length_cons, pk_m1, nI_m1]
        rw [nI_clamp (show st.length < 2 ^ 31 by omega), nI_clamp (show st.length + 1 < 2 ^ 31 by omega), sw_s, hx, hy]
        refine ⟨hv, hv1, pX1_join ok (ex_i ⟨hv, ?_⟩)⟩
        rw [su_w]
        exact ih (i + 1) (jn p x y :: st) _ hdr2 hi2 (by simp only [List.length_cons]; omega) hw2 (SA_push (SA_tl (SA_tl hS)) _) hK
theorem pX1_give {q qc qs u : Nat} {a b c : Int32} {s : Nat → Int32} {lw : Option (List Tk)} (hq : sk_Sc[q]? = some (0, 1, [0, 1, qc + 2, 0, qs + 2])) (hqc : sk_Sc[qc]? = some (1, 60, [])) (hqs : sk_Sc[qs]? = some (1, 60, [])) (n1 : q ≠ qs) (n2 : qc ≠ qs) (hu : u < 2) (hd : 1 < d) (hL : RLw τ q qc s u lw)
    (h : ∀ g, K (some (.int (pGive u lw a b c))) (sk_w τ qs g)) : sk_C sk_Sc d mX1_give [.ref q, .int a, .int b, .int c] τ K := by
  refine wX1_give hq hqc hqs (by omega) ?_
  obtain ⟨h0, hL⟩ := hL
  rw [h0]
  have hid := h (τ qs)
  rw [sw_id] at hid
  have hw : ∀ L, lw = some L → sk_C sk_Sc (d - 1) mX1_workOut [.ref q, .int a, .int b, .int c] τ (fun w t28 => ∃ r28 : Int32, w = some (.int r28) ∧ K (some (.int (sk_max 0 (sk_min 99 r28)))) t28) := by
    intro L hLe
    subst hLe
    obtain ⟨-, hsz, hpos, hlen, hwf, -, htok⟩ := hL
    refine wX1_workOut hq hqc hqs ?_
    have := lX1_workOut (d := d - 1) (K := fun w t28 => ∃ r28 : Int32, w = some (.int r28) ∧ K (some (.int (sk_max 0 (sk_min 99 r28)))) t28) hq hqc hqs n1 n2 (a := a) (b := b) (c := c) (by omega) hsz hlen (fun i t ht => ⟨(htok i t ht).1, (htok i t ht).2.1⟩) L 0 [] (τ qs) rfl (by omega) (by simp) hwf (SA_nil _) (fun g => ex_i (h g))
    rw [sw_id] at this
    exact this
  match lw, hL, h, hid, hw with
  | none, hL, h, hid, _ =>
    rw [hL.1]
    match u, hu, hid with
    | 0, _, hid => exact ns_f rfl (br_t rfl hid)
    | 1, _, hid => exact ns_t (by decide) (br_t rfl hid)
  | some L, hL, h, hid, hw =>
    rw [hL.1]
    match u, hu with
    | 0, _ => exact ns_f rfl (br_f i1_0 (hw L rfl))
    | 1, _ => exact ns_t (by decide) (br_f i1_0 (hw L rfl))
end
