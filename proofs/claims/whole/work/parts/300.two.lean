/-! ===== two memories: what the class holds (S), what the reference holds (T) ===== -/
def Rsc2 (S T : Sg) (r w : Int) : Prop :=
  T 5 w 0 0 = S 0 r 0 0 ∧ T 5 w 0 38 = S 0 r 0 1 ∧ T 5 w 0 39 = S 0 r 0 2 ∧ T 5 w 0 40 = S 0 r 0 3 ∧ T 5 w 0 15 = S 0 r 0 4 ∧
  S 0 r 0 5 = T 5 w 31 0 + 3 * T 5 w 31 1 + 9 * T 5 w 31 2 ∧ T 5 w 0 41 = pv (S 0 r 0 6) ∧
  (0 ≤ S 0 r 0 0 ∧ S 0 r 0 0 ≤ 400) ∧ (0 ≤ S 0 r 0 1 ∧ S 0 r 0 1 ≤ 1000000) ∧ (0 ≤ S 0 r 0 4 ∧ S 0 r 0 4 ≤ 500) ∧
  (-1 ≤ S 0 r 0 6 ∧ S 0 r 0 6 ≤ S 0 r 0 0 ∨ S 0 r 0 6 = -1) ∧
  (∀ i, 0 ≤ i → i < 3 → 0 ≤ T 5 w 31 i ∧ T 5 w 31 i ≤ 2) ∧ T 5 w 31 0 ≠ T 5 w 31 1 ∧ T 5 w 31 0 ≠ T 5 w 31 2 ∧ T 5 w 31 1 ≠ T 5 w 31 2 ∧
  (∀ i, 0 ≤ i → i < 4 → T 5 w 30 i = S 0 r 1 i) ∧
  (0 ≤ S 0 r 1 0 ∧ S 0 r 1 0 ≤ 500) ∧ (0 ≤ S 0 r 1 1 ∧ S 0 r 1 1 ≤ 9999) ∧ (0 ≤ S 0 r 1 2 ∧ S 0 r 1 2 ≤ 99) ∧ (1 ≤ S 0 r 1 3 ∧ S 0 r 1 3 ≤ 99)
def Rh12 (S T : Sg) (r w h : Int) : Prop :=
  T 5 w 10 h = S 0 r 2 h ∧ T 5 w 11 h = S 0 r 3 h ∧ T 5 w 12 h = S 0 r 4 h ∧ T 5 w 13 h = S 0 r 5 h ∧
  (0 ≤ S 0 r 2 h ∧ S 0 r 2 h ≤ 20) ∧ (0 ≤ S 0 r 3 h ∧ S 0 r 3 h ≤ 200) ∧ (1 ≤ S 0 r 4 h ∧ S 0 r 4 h ≤ 9) ∧ (0 ≤ S 0 r 5 h ∧ S 0 r 5 h ≤ 1)
def Rho2 (S T : Sg) (r w : Int) : Prop := ∀ h, 0 ≤ h → h < 12 → Rh12 S T r w h
def Rp12 (S T : Sg) (r w i : Int) : Prop :=
    T 5 w 1 i = S 0 r 7 i ∧ T 5 w 2 i = S 0 r 8 i ∧ T 5 w 3 i = pv (S 0 r 9 i) ∧ T 5 w 4 i = S 0 r 10 i ∧ T 5 w 5 i = S 0 r 11 i ∧ T 5 w 6 i = S 0 r 12 i ∧ T 5 w 7 i = S 0 r 13 i ∧ T 5 w 8 i = pv (S 0 r 14 i) ∧ T 5 w 9 i = S 0 r 15 i ∧
    (-5000 ≤ S 0 r 7 i ∧ S 0 r 7 i ≤ S 0 r 0 0) ∧ (0 ≤ S 0 r 8 i ∧ S 0 r 8 i < 12) ∧ (-1 ≤ S 0 r 9 i ∧ S 0 r 9 i < i) ∧ (0 ≤ S 0 r 10 i ∧ S 0 r 10 i < 256) ∧ (0 ≤ S 0 r 11 i ∧ S 0 r 11 i ≤ 2) ∧ (-1 ≤ S 0 r 12 i ∧ S 0 r 12 i ≤ 400) ∧ (0 ≤ S 0 r 13 i ∧ S 0 r 13 i ≤ 99) ∧ (-1 ≤ S 0 r 14 i ∧ S 0 r 14 i < 8) ∧ (0 ≤ S 0 r 15 i ∧ S 0 r 15 i ≤ 1)
def Rpp2 (S T : Sg) (r w : Int) : Prop :=
  T 5 w 0 1 = S 0 r 6 0 ∧ (0 ≤ S 0 r 6 0 ∧ S 0 r 6 0 ≤ 40) ∧ ∀ i, 0 ≤ i → i < S 0 r 6 0 → Rp12 S T r w i
def Rq12 (S T : Sg) (r w i : Int) : Prop :=
    T 5 w 21 i = S 0 r 27 i ∧ T 5 w 22 i = S 0 r 28 i ∧ T 5 w 23 i = S 0 r 29 i ∧ T 5 w 24 i = S 0 r 30 i ∧
    (0 ≤ S 0 r 27 i ∧ S 0 r 27 i < 8) ∧ (1 ≤ S 0 r 28 i ∧ S 0 r 28 i ≤ 3) ∧ (0 ≤ S 0 r 29 i ∧ S 0 r 29 i ≤ 3) ∧ (0 ≤ S 0 r 30 i ∧ S 0 r 30 i ≤ 1)
def Rpo2 (S T : Sg) (r w : Int) : Prop :=
  T 5 w 0 25 = S 0 r 26 0 ∧ (0 ≤ S 0 r 26 0 ∧ S 0 r 26 0 ≤ 8) ∧ ∀ i, 0 ≤ i → i < S 0 r 26 0 → Rq12 S T r w i
def Rg12 (S T : Sg) (r w g : Int) : Prop :=
  T 5 w 25 g = S 0 r 32 g ∧ T 5 w 26 g = S 0 r 33 g ∧ T 5 w 27 g = S 0 r 34 g ∧ (0 ≤ S 0 r 32 g ∧ S 0 r 32 g ≤ 9999) ∧ (0 ≤ S 0 r 33 g ∧ S 0 r 33 g ≤ 9) ∧ (0 ≤ S 0 r 34 g ∧ S 0 r 34 g ≤ 99) ∧ (g = 0 → S 0 r 34 g = 0)
def Ro12 (S T : Sg) (r w i : Int) : Prop :=
  T 5 w 28 i = S 0 r 35 i ∧ T 5 w 29 i = S 0 r 36 i ∧ (0 ≤ S 0 r 35 i ∧ S 0 r 35 i < 4) ∧ (0 ≤ S 0 r 36 i ∧ S 0 r 36 i ≤ 500)
def Rst2 (S T : Sg) (r w : Int) : Prop :=
  (∀ g, 0 ≤ g → g < 4 → Rg12 S T r w g) ∧
  T 5 w 0 33 = S 0 r 31 3 ∧ (0 ≤ S 0 r 31 3 ∧ S 0 r 31 3 ≤ 30) ∧ ∀ i, 0 ≤ i → i < S 0 r 31 3 → Ro12 S T r w i
def Rsk2 (S T : Sg) (r w : Int) : Prop := ∀ k, 0 ≤ k → k < 2 →
  T 5 w 32 k = S 13 r k 0 ∧ T 5 w 33 k = S 13 r k 1 ∧ (0 ≤ S 13 r k 0 ∧ S 13 r k 0 ≤ 2) ∧ (0 ≤ S 13 r k 1 ∧ S 13 r k 1 ≤ 120) ∧ ∀ i, 0 ≤ i → i < S 13 r k 1 → T 7 w k i = S 14 r k i
def Ri (S T : Sg) (r w : Int) : Prop := Rsc2 S T r w ∧ Rho2 S T r w ∧ Rpp2 S T r w ∧ Rpo2 S T r w ∧ Rst2 S T r w ∧ Rsk2 S T r w
theorem Ri_S {S : Sg} {r w : Int} : Ri S S r w ↔ Ria S r w := Iff.rfl
/-- the places of world a in U that are read are as those of world b in T -/
def Wk (T U : Sg) (a b : Int) : Prop :=
  (∀ i, i = 0 ∨ i = 1 ∨ i = 15 ∨ i = 16 ∨ i = 25 ∨ i = 33 ∨ (38 ≤ i ∧ i ≤ 41) → U 5 a 0 i = T 5 b 0 i) ∧ (∀ k i, 1 ≤ k → k ≤ 9 → 0 ≤ i → i < 40 → U 5 a k i = T 5 b k i) ∧ (∀ k i, 10 ≤ k → k ≤ 13 → 0 ≤ i → i < 12 → U 5 a k i = T 5 b k i) ∧ (∀ k i, 14 ≤ k → k ≤ 20 → 0 ≤ i → i < 12 → U 5 a k i = T 5 b k i) ∧ (∀ k i, 21 ≤ k → k ≤ 24 → 0 ≤ i → i < 8 → U 5 a k i = T 5 b k i) ∧ (∀ k i, 25 ≤ k → k ≤ 27 → 0 ≤ i → i < 4 → U 5 a k i = T 5 b k i) ∧ (∀ k i, 28 ≤ k → k ≤ 29 → 0 ≤ i → i < 30 → U 5 a k i = T 5 b k i) ∧ (∀ k i, 30 ≤ k → k ≤ 30 → 0 ≤ i → i < 4 → U 5 a k i = T 5 b k i) ∧ (∀ k i, 31 ≤ k → k ≤ 31 → 0 ≤ i → i < 3 → U 5 a k i = T 5 b k i) ∧ (∀ k i, 32 ≤ k → k ≤ 33 → 0 ≤ i → i < 2 → U 5 a k i = T 5 b k i) ∧ (∀ k i, 0 ≤ k → k < 12 → 0 ≤ i → i < 120 → U 6 a k i = T 6 b k i) ∧ (∀ k i, 0 ≤ k → k < 2 → 0 ≤ i → i < 120 → U 7 a k i = T 7 b k i) ∧ (∀ k i, 0 ≤ k → k < 5 → 0 ≤ i → i < 401 → U 8 a k i = T 8 b k i)
theorem Lk.get {S U : Sg} {a b : Int} {L : List (Nat × Int × Int × Int)} (h : Lk S U a b L) {g : Nat} {k l n : Int} (hm : (g, k, l, n) ∈ L) (i : Int) (h1 : l ≤ i) (h2 : i < l + n) : U g a k i = S g b k i := h.2 _ hm i h1 h2
set_option maxRecDepth 20000 in
theorem Lk.wk {S U : Sg} {a b : Int} (h : Lk S U a b LkL) : Wk S U a b := by
  refine ⟨?_, ?_, ?_, ?_, ?_, ?_, ?_, ?_, ?_, ?_, ?_, ?_, ?_⟩
  · intro i hi
    have e : i = 0 ∨ i = 1 ∨ i = 15 ∨ i = 16 ∨ i = 25 ∨ i = 33 ∨ i = 38 ∨ i = 39 ∨ i = 40 ∨ i = 41 := by omega
    rcases e with e | e | e | e | e | e | e | e | e | e <;> subst e
    · exact h.get (g := 5) (k := 0) (l := 0) (n := 1) (by decide) 0 (by decide) (by decide)
    · exact h.get (g := 5) (k := 0) (l := 1) (n := 1) (by decide) 1 (by decide) (by decide)
    · exact h.get (g := 5) (k := 0) (l := 15) (n := 1) (by decide) 15 (by decide) (by decide)
    · exact h.get (g := 5) (k := 0) (l := 16) (n := 1) (by decide) 16 (by decide) (by decide)
    · exact h.get (g := 5) (k := 0) (l := 25) (n := 1) (by decide) 25 (by decide) (by decide)
    · exact h.get (g := 5) (k := 0) (l := 33) (n := 1) (by decide) 33 (by decide) (by decide)
    · exact h.get (g := 5) (k := 0) (l := 38) (n := 1) (by decide) 38 (by decide) (by decide)
    · exact h.get (g := 5) (k := 0) (l := 39) (n := 1) (by decide) 39 (by decide) (by decide)
    · exact h.get (g := 5) (k := 0) (l := 40) (n := 1) (by decide) 40 (by decide) (by decide)
    · exact h.get (g := 5) (k := 0) (l := 41) (n := 1) (by decide) 41 (by decide) (by decide)
  · intro k i h1 h2 h3 h4
    have e : k = 1 ∨ k = 2 ∨ k = 3 ∨ k = 4 ∨ k = 5 ∨ k = 6 ∨ k = 7 ∨ k = 8 ∨ k = 9 := by omega
    rcases e with e | e | e | e | e | e | e | e | e <;> subst e
    · exact h.get (g := 5) (k := 1) (l := 0) (n := ((40 : Nat) : Int)) (by decide) i h3 (by omega)
    · exact h.get (g := 5) (k := 2) (l := 0) (n := ((40 : Nat) : Int)) (by decide) i h3 (by omega)
    · exact h.get (g := 5) (k := 3) (l := 0) (n := ((40 : Nat) : Int)) (by decide) i h3 (by omega)
    · exact h.get (g := 5) (k := 4) (l := 0) (n := ((40 : Nat) : Int)) (by decide) i h3 (by omega)
    · exact h.get (g := 5) (k := 5) (l := 0) (n := ((40 : Nat) : Int)) (by decide) i h3 (by omega)
    · exact h.get (g := 5) (k := 6) (l := 0) (n := ((40 : Nat) : Int)) (by decide) i h3 (by omega)
    · exact h.get (g := 5) (k := 7) (l := 0) (n := ((40 : Nat) : Int)) (by decide) i h3 (by omega)
    · exact h.get (g := 5) (k := 8) (l := 0) (n := ((40 : Nat) : Int)) (by decide) i h3 (by omega)
    · exact h.get (g := 5) (k := 9) (l := 0) (n := ((40 : Nat) : Int)) (by decide) i h3 (by omega)
  · intro k i h1 h2 h3 h4
    have e : k = 10 ∨ k = 11 ∨ k = 12 ∨ k = 13 := by omega
    rcases e with e | e | e | e <;> subst e
    · exact h.get (g := 5) (k := 10) (l := 0) (n := ((12 : Nat) : Int)) (by decide) i h3 (by omega)
    · exact h.get (g := 5) (k := 11) (l := 0) (n := ((12 : Nat) : Int)) (by decide) i h3 (by omega)
    · exact h.get (g := 5) (k := 12) (l := 0) (n := ((12 : Nat) : Int)) (by decide) i h3 (by omega)
    · exact h.get (g := 5) (k := 13) (l := 0) (n := ((12 : Nat) : Int)) (by decide) i h3 (by omega)
  · intro k i h1 h2 h3 h4
    have e : k = 14 ∨ k = 15 ∨ k = 16 ∨ k = 17 ∨ k = 18 ∨ k = 19 ∨ k = 20 := by omega
    rcases e with e | e | e | e | e | e | e <;> subst e
    · exact h.get (g := 5) (k := 14) (l := 0) (n := ((12 : Nat) : Int)) (by decide) i h3 (by omega)
    · exact h.get (g := 5) (k := 15) (l := 0) (n := ((12 : Nat) : Int)) (by decide) i h3 (by omega)
    · exact h.get (g := 5) (k := 16) (l := 0) (n := ((12 : Nat) : Int)) (by decide) i h3 (by omega)
    · exact h.get (g := 5) (k := 17) (l := 0) (n := ((12 : Nat) : Int)) (by decide) i h3 (by omega)
    · exact h.get (g := 5) (k := 18) (l := 0) (n := ((12 : Nat) : Int)) (by decide) i h3 (by omega)
    · exact h.get (g := 5) (k := 19) (l := 0) (n := ((12 : Nat) : Int)) (by decide) i h3 (by omega)
    · exact h.get (g := 5) (k := 20) (l := 0) (n := ((12 : Nat) : Int)) (by decide) i h3 (by omega)
  · intro k i h1 h2 h3 h4
    have e : k = 21 ∨ k = 22 ∨ k = 23 ∨ k = 24 := by omega
    rcases e with e | e | e | e <;> subst e
    · exact h.get (g := 5) (k := 21) (l := 0) (n := ((8 : Nat) : Int)) (by decide) i h3 (by omega)
    · exact h.get (g := 5) (k := 22) (l := 0) (n := ((8 : Nat) : Int)) (by decide) i h3 (by omega)
    · exact h.get (g := 5) (k := 23) (l := 0) (n := ((8 : Nat) : Int)) (by decide) i h3 (by omega)
    · exact h.get (g := 5) (k := 24) (l := 0) (n := ((8 : Nat) : Int)) (by decide) i h3 (by omega)
  · intro k i h1 h2 h3 h4
    have e : k = 25 ∨ k = 26 ∨ k = 27 := by omega
    rcases e with e | e | e <;> subst e
    · exact h.get (g := 5) (k := 25) (l := 0) (n := ((4 : Nat) : Int)) (by decide) i h3 (by omega)
    · exact h.get (g := 5) (k := 26) (l := 0) (n := ((4 : Nat) : Int)) (by decide) i h3 (by omega)
    · exact h.get (g := 5) (k := 27) (l := 0) (n := ((4 : Nat) : Int)) (by decide) i h3 (by omega)
  · intro k i h1 h2 h3 h4
    have e : k = 28 ∨ k = 29 := by omega
    rcases e with e | e <;> subst e
    · exact h.get (g := 5) (k := 28) (l := 0) (n := ((30 : Nat) : Int)) (by decide) i h3 (by omega)
    · exact h.get (g := 5) (k := 29) (l := 0) (n := ((30 : Nat) : Int)) (by decide) i h3 (by omega)
  · intro k i h1 h2 h3 h4
    have e : k = 30 := by omega
    subst e
    exact h.get (g := 5) (k := 30) (l := 0) (n := ((4 : Nat) : Int)) (by decide) i h3 (by omega)
  · intro k i h1 h2 h3 h4
    have e : k = 31 := by omega
    subst e
    exact h.get (g := 5) (k := 31) (l := 0) (n := ((3 : Nat) : Int)) (by decide) i h3 (by omega)
  · intro k i h1 h2 h3 h4
    have e : k = 32 ∨ k = 33 := by omega
    rcases e with e | e <;> subst e
    · exact h.get (g := 5) (k := 32) (l := 0) (n := ((2 : Nat) : Int)) (by decide) i h3 (by omega)
    · exact h.get (g := 5) (k := 33) (l := 0) (n := ((2 : Nat) : Int)) (by decide) i h3 (by omega)
  · intro k i h1 h2 h3 h4
    have e : k = 0 ∨ k = 1 ∨ k = 2 ∨ k = 3 ∨ k = 4 ∨ k = 5 ∨ k = 6 ∨ k = 7 ∨ k = 8 ∨ k = 9 ∨ k = 10 ∨ k = 11 := by omega
    rcases e with e | e | e | e | e | e | e | e | e | e | e | e <;> subst e
    · exact h.get (g := 6) (k := 0) (l := 0) (n := ((120 : Nat) : Int)) (by decide) i h3 (by omega)
    · exact h.get (g := 6) (k := 1) (l := 0) (n := ((120 : Nat) : Int)) (by decide) i h3 (by omega)
    · exact h.get (g := 6) (k := 2) (l := 0) (n := ((120 : Nat) : Int)) (by decide) i h3 (by omega)
    · exact h.get (g := 6) (k := 3) (l := 0) (n := ((120 : Nat) : Int)) (by decide) i h3 (by omega)
    · exact h.get (g := 6) (k := 4) (l := 0) (n := ((120 : Nat) : Int)) (by decide) i h3 (by omega)
    · exact h.get (g := 6) (k := 5) (l := 0) (n := ((120 : Nat) : Int)) (by decide) i h3 (by omega)
    · exact h.get (g := 6) (k := 6) (l := 0) (n := ((120 : Nat) : Int)) (by decide) i h3 (by omega)
    · exact h.get (g := 6) (k := 7) (l := 0) (n := ((120 : Nat) : Int)) (by decide) i h3 (by omega)
    · exact h.get (g := 6) (k := 8) (l := 0) (n := ((120 : Nat) : Int)) (by decide) i h3 (by omega)
    · exact h.get (g := 6) (k := 9) (l := 0) (n := ((120 : Nat) : Int)) (by decide) i h3 (by omega)
    · exact h.get (g := 6) (k := 10) (l := 0) (n := ((120 : Nat) : Int)) (by decide) i h3 (by omega)
    · exact h.get (g := 6) (k := 11) (l := 0) (n := ((120 : Nat) : Int)) (by decide) i h3 (by omega)
  · intro k i h1 h2 h3 h4
    have e : k = 0 ∨ k = 1 := by omega
    rcases e with e | e <;> subst e
    · exact h.get (g := 7) (k := 0) (l := 0) (n := ((120 : Nat) : Int)) (by decide) i h3 (by omega)
    · exact h.get (g := 7) (k := 1) (l := 0) (n := ((120 : Nat) : Int)) (by decide) i h3 (by omega)
  · intro k i h1 h2 h3 h4
    have e : k = 0 ∨ k = 1 ∨ k = 2 ∨ k = 3 ∨ k = 4 := by omega
    rcases e with e | e | e | e | e <;> subst e
    · exact h.get (g := 8) (k := 0) (l := 0) (n := ((401 : Nat) : Int)) (by decide) i h3 (by omega)
    · exact h.get (g := 8) (k := 1) (l := 0) (n := ((401 : Nat) : Int)) (by decide) i h3 (by omega)
    · exact h.get (g := 8) (k := 2) (l := 0) (n := ((401 : Nat) : Int)) (by decide) i h3 (by omega)
    · exact h.get (g := 8) (k := 3) (l := 0) (n := ((401 : Nat) : Int)) (by decide) i h3 (by omega)
    · exact h.get (g := 8) (k := 4) (l := 0) (n := ((401 : Nat) : Int)) (by decide) i h3 (by omega)
theorem Wk.eq {T U : Sg} {w : Int} (h0 : ∀ i, i < 47 → U 5 w 0 i = T 5 w 0 i) (h5 : ∀ k, 1 ≤ k → k ≤ 33 → U 5 w k = T 5 w k) (h6 : U 6 = T 6) (h7 : U 7 = T 7) (h8 : U 8 = T 8) : Wk T U w w := by
  refine ⟨fun i hi => h0 i (by omega), fun k i h1 h2 _ _ => by rw [h5 k (by omega) (by omega)], fun k i h1 h2 _ _ => by rw [h5 k (by omega) (by omega)], fun k i h1 h2 _ _ => by rw [h5 k (by omega) (by omega)], fun k i h1 h2 _ _ => by rw [h5 k (by omega) (by omega)], fun k i h1 h2 _ _ => by rw [h5 k (by omega) (by omega)], fun k i h1 h2 _ _ => by rw [h5 k (by omega) (by omega)], fun k i h1 h2 _ _ => by rw [h5 k (by omega) (by omega)], fun k i h1 h2 _ _ => by rw [h5 k (by omega) (by omega)], fun k i h1 h2 _ _ => by rw [h5 k (by omega) (by omega)], fun k i _ _ _ _ => by rw [h6], fun k i _ _ _ _ => by rw [h7], fun k i _ _ _ _ => by rw [h8]⟩
theorem Bk.eq {S S2 : Sg} {r : Int} (h0 : S2 0 = S 0) (h13 : S2 13 = S 13) (h14 : S2 14 = S 14) : Bk S S2 r r := by
  unfold Bk
  rw [h0, h13, h14]
  simp
theorem Ri.like {S T S2 T2 : Sg} {r w a b : Int} (h : Ri S T r w) (hb : Bk S S2 a r) (hw : Wk T T2 b w) : Ri S2 T2 a b := by
  obtain ⟨b0, b1, b2, b3, b4, b5, b6, b7, b8, b9, b10, b11, b12⟩ := hb
  obtain ⟨w0, w1, w2, w3, w4, w5, w6, w7, w8, w9, w10, w11, w12⟩ := hw
  obtain ⟨h1, h2, h3, h4, h5, h6⟩ := h
  refine ⟨?_, ?_, ?_, ?_, ?_, ?_⟩
  · obtain ⟨c1, c2, c3, c4, c5, c6, c7, c8, c9, c10, c11, c12, c13, c14, c15, c16, c17⟩ := h1
    have e31 : ∀ i, 0 ≤ i → i < 3 → T2 5 b 31 i = T 5 w 31 i := fun i p q => w8 31 i (by decide) (by decide) p q
    have e30 : ∀ i, 0 ≤ i → i < 4 → T2 5 b 30 i = T 5 w 30 i := fun i p q => w7 30 i (by decide) (by decide) p q
    unfold Rsc2
    rw [w0 0 (by omega), w0 38 (by omega), w0 39 (by omega), w0 40 (by omega), w0 15 (by omega), w0 41 (by omega), b0 0 (by omega) (by omega), b0 1 (by omega) (by omega), b0 2 (by omega) (by omega), b0 3 (by omega) (by omega), b0 4 (by omega) (by omega), b0 5 (by omega) (by omega), b0 6 (by omega) (by omega), e31 0 (by omega) (by omega), e31 1 (by omega) (by omega), e31 2 (by omega) (by omega), b1 0 (by omega) (by omega), b1 1 (by omega) (by omega), b1 2 (by omega) (by omega), b1 3 (by omega) (by omega)]
    exact ⟨c1, c2, c3, c4, c5, c6, c7, c8, c9, c10, c11, fun i p q => by rw [e31 i p q]; exact c12 i p q, c13, c14, c15, fun i p q => by rw [e30 i p q, b1 i p q]; exact c16 i p q, c17⟩
  · intro i p q
    have c := h2 i p q
    unfold Rh12 at c ⊢
    rw [w2 10 i (by omega) (by omega) p q, w2 11 i (by omega) (by omega) p q, w2 12 i (by omega) (by omega) p q, w2 13 i (by omega) (by omega) p q, b2 2 i (by omega) (by omega) p q, b2 3 i (by omega) (by omega) p q, b2 4 i (by omega) (by omega) p q, b2 5 i (by omega) (by omega) p q]
    exact c
  · obtain ⟨c1, c2, c3⟩ := h3
    refine ⟨by rw [w0 1 (by omega), b3]; exact c1, by rw [b3]; exact c2, ?_⟩
    intro i p q
    rw [b3] at q
    have q2 : i < 40 := by omega
    have c := c3 i p q
    unfold Rp12 at c ⊢
    rw [w1 1 i (by omega) (by omega) p q2, w1 2 i (by omega) (by omega) p q2, w1 3 i (by omega) (by omega) p q2, w1 4 i (by omega) (by omega) p q2, w1 5 i (by omega) (by omega) p q2, w1 6 i (by omega) (by omega) p q2, w1 7 i (by omega) (by omega) p q2, w1 8 i (by omega) (by omega) p q2, w1 9 i (by omega) (by omega) p q2,
      b4 7 i (by omega) (by omega) p q2, b4 8 i (by omega) (by omega) p q2, b4 9 i (by omega) (by omega) p q2, b4 10 i (by omega) (by omega) p q2, b4 11 i (by omega) (by omega) p q2, b4 12 i (by omega) (by omega) p q2, b4 13 i (by omega) (by omega) p q2, b4 14 i (by omega) (by omega) p q2, b4 15 i (by omega) (by omega) p q2, b0 0 (by omega) (by omega)]
    exact c
  · obtain ⟨c1, c2, c3⟩ := h4
    refine ⟨by rw [w0 25 (by omega), b7]; exact c1, by rw [b7]; exact c2, ?_⟩
    intro i p q
    rw [b7] at q
    have q2 : i < 8 := by omega
    have c := c3 i p q
    unfold Rq12 at c ⊢
    rw [w4 21 i (by omega) (by omega) p q2, w4 22 i (by omega) (by omega) p q2, w4 23 i (by omega) (by omega) p q2, w4 24 i (by omega) (by omega) p q2, b8 27 i (by omega) (by omega) p q2, b8 28 i (by omega) (by omega) p q2, b8 29 i (by omega) (by omega) p q2, b8 30 i (by omega) (by omega) p q2]
    exact c
  · obtain ⟨c0, c1, c2, c3⟩ := h5
    refine ⟨?_, by rw [w0 33 (by omega), b9]; exact c1, by rw [b9]; exact c2, ?_⟩
    · intro i p q
      have c := c0 i p q
      unfold Rg12 at c ⊢
      rw [w5 25 i (by omega) (by omega) p q, w5 26 i (by omega) (by omega) p q, w5 27 i (by omega) (by omega) p q, b10 32 i (by omega) (by omega) p q, b10 33 i (by omega) (by omega) p q, b10 34 i (by omega) (by omega) p q]
      exact c
    · intro i p q
      rw [b9] at q
      have q2 : i < 30 := by omega
      have c := c3 i p q
      unfold Ro12 at c ⊢
      rw [w6 28 i (by omega) (by omega) p q2, w6 29 i (by omega) (by omega) p q2, b11 35 i (by omega) (by omega) p q2, b11 36 i (by omega) (by omega) p q2]
      exact c
  · intro k p q
    obtain ⟨d1, d2, d3⟩ := b12 k p q
    obtain ⟨c1, c2, c3, c4, c5⟩ := h6 k p q
    refine ⟨by rw [w9 32 k (by omega) (by omega) p q, d1]; exact c1, by rw [w9 33 k (by omega) (by omega) p q, d2]; exact c2, by rw [d1]; exact c3, by rw [d2]; exact c4, ?_⟩
    intro i p1 q1
    rw [d2] at q1
    rw [w11 k i p q p1 (by omega), d3 i p1 q1]
    exact c5 i p1 q1
theorem Rla.like {S T S2 T2 : Sg} {r w a b : Int} (h : Rla S T r w) (hb : Bk S S2 a r) (hw : Wk T T2 b w) : Rla S2 T2 a b := by
  obtain ⟨b0, b1, b2, b3, b4, b5, b6, b7, b8, b9, b10, b11, b12⟩ := hb
  obtain ⟨w0, w1, w2, w3, w4, w5, w6, w7, w8, w9, w10, w11, w12⟩ := hw
  obtain ⟨c1, c2, c3⟩ := h
  refine ⟨by rw [w0 16 (by omega), b5]; exact c1, by rw [b5]; exact c2, ?_⟩
  intro l p q
  rw [b5] at q
  have q2 : l < 12 := by omega
  have c := c3 l p q
  unfold Rl1 at c ⊢
  obtain ⟨d1, d2, d3, d4, d5, d6, d7, d8, d9, d10, d11, d12, d13, d14, d15, d16, d17⟩ := c
  rw [w3 14 l (by omega) (by omega) p q2, w3 15 l (by omega) (by omega) p q2, w3 16 l (by omega) (by omega) p q2, w3 17 l (by omega) (by omega) p q2, w3 18 l (by omega) (by omega) p q2, w3 19 l (by omega) (by omega) p q2, w3 20 l (by omega) (by omega) p q2, w10 l 0 p q2 (by omega) (by omega),
    b6 17 l (by omega) (by omega) p q2, b6 18 l (by omega) (by omega) p q2, b6 19 l (by omega) (by omega) p q2, b6 20 l (by omega) (by omega) p q2, b6 21 l (by omega) (by omega) p q2, b6 22 l (by omega) (by omega) p q2, b6 23 l (by omega) (by omega) p q2, b6 24 l (by omega) (by omega) p q2]
  refine ⟨d1, d2, d3, d4, d5, d6, d7, d8, d9, d10, d11, d12, d13, d14, d15, d16, ?_⟩
  intro e1 e2
  rw [b6 21 _ (by omega) (by omega) e1 (by omega)] at e2
  exact d17 e1 e2
