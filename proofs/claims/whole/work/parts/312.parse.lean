/-! ===== a law's text read from the left, letters as a list: what is left, and the steps (none: a fault there) ===== -/
abbrev PR : Type := List Int × Option (List Int)
def pDg (v cnt : Int) : List Int → PR
  | [] => ([], some [v])
  | x :: t => if dgt x then (if cnt = 4 ∨ v = 0 then (x :: t, none) else pDg (zw (zw (zw (10 * v) + x) - 48)) (cnt + 1) t) else (x :: t, some [v])
def pAt : List Int → PR
  | [] => ([], none)
  | x :: t => if dgt x then pDg (x - 48) 1 t else if fldS x < 0 then (t, some [fldS x]) else (x :: t, none)
theorem pAt_cons (x : Int) (t : List Int) : pAt (x :: t) = if dgt x then pDg (x - 48) 1 t else if fldS x < 0 then (t, some [fldS x]) else (x :: t, none) := rfl
def sgo (x : Int) : Int := if x = 43 then -8 else -9
def pSl : Nat → List Int → List Int → PR
  | 0, _, l => (l, none)
  | _ + 1, e, [] => ([], some e)
  | n + 1, e, x :: t => if x = 43 ∨ x = 45 then (match pAt t with
    | (r, none) => (r, none)
    | (r, some a) => pSl n (e ++ (a ++ [sgo x])) r) else (x :: t, some e)
def pSu (l : List Int) : PR := match pAt l with
  | (r, none) => (r, none)
  | (r, some a) => pSl 4096 a r
def pTs (l : List Int) : PR := match pSu l with
  | (r, none) => (r, none)
  | ([], some _) => ([], none)
  | (y :: t, some e) => if y = 60 ∨ y = 62 ∨ y = 61 then (match pSu t with
    | (r, none) => (r, none)
    | (r, some e2) => (r, some (e ++ (e2 ++ [cop y])))) else (y :: t, none)
def pTl (F : List Int → PR) : Nat → List Int → List Int → PR
  | 0, _, l => (l, none)
  | _ + 1, e, [] => ([], some e)
  | n + 1, e, x :: t => if x = 38 then (match F t with
    | (r, none) => (r, none)
    | (r, some a) => pTl F n (e ++ (a ++ [-13])) r) else (x :: t, some e)
def pTe (F : List Int → PR) (l : List Int) : PR := match F l with
  | (r, none) => (r, none)
  | (r, some a) => pTl F 4096 a r
def pEl (F : List Int → PR) : Nat → List Int → List Int → PR
  | 0, _, l => (l, none)
  | _ + 1, e, [] => ([], some e)
  | n + 1, e, x :: t => if x = 124 then (match F t with
    | (r, none) => (r, none)
    | (r, some a) => pEl F n (e ++ (a ++ [-14])) r) else (x :: t, some e)
def pEx (F : List Int → PR) (l : List Int) : PR := match F l with
  | (r, none) => (r, none)
  | (r, some a) => pEl F 4096 a r
def pFB (F E : Int → List Int → PR) (b : Int) : List Int → PR
  | [] => ([], none)
  | x :: t => if x = 33 then (match F b t with
      | (r, none) => (r, none)
      | (r, some e) => (r, some (e ++ [-15])))
    else if x = 40 then (if b = 8 then (x :: t, none) else (match E (b + 1) t with
      | (r, none) => (r, none)
      | ([], some _) => ([], none)
      | (y :: r, some e) => if y = 41 then (r, some e) else (y :: r, none)))
    else pTs (x :: t)
def pFa : Nat → Int → List Int → PR
  | 0, _, l => (l, none)
  | n + 1, b, l => pFB (pFa n) (fun b => pEx (pTe (pFa n b))) b l
/-- what is left is an end of what was there -/
def Sfx (l : List Int) (p : PR) : Prop := p.1 <:+ l
theorem sfx_cons (x : Int) (t : List Int) : t <:+ (x :: t) := List.suffix_cons x t
theorem sfx_pDg : ∀ (l : List Int) (v cnt : Int), Sfx l (pDg v cnt l)
  | [], _, _ => List.suffix_refl _
  | x :: t, v, cnt => by
    unfold pDg
    split
    · split
      · exact List.suffix_refl _
      · exact (sfx_pDg t _ _).trans (sfx_cons x t)
    · exact List.suffix_refl _
theorem sfx_pAt (l : List Int) : Sfx l (pAt l) := by
  cases l with
  | nil => exact List.suffix_refl _
  | cons x t =>
    rw [pAt_cons]
    split
    · exact (sfx_pDg t _ _).trans (sfx_cons x t)
    · split
      · exact sfx_cons x t
      · exact List.suffix_refl _
theorem sfx_pSl : ∀ (n : Nat) (e l : List Int), Sfx l (pSl n e l)
  | 0, _, _ => List.suffix_refl _
  | n + 1, e, [] => List.suffix_refl _
  | n + 1, e, x :: t => by
    unfold pSl
    split
    · have q := sfx_pAt t
      unfold Sfx at q
      cases hp : pAt t with
      | mk r o =>
        rw [hp] at q
        cases o with
        | none => exact List.IsSuffix.trans q (sfx_cons x t)
        | some a => exact ((sfx_pSl n _ r).trans q).trans (sfx_cons x t)
    · exact List.suffix_refl _
theorem sfx_pSu (l : List Int) : Sfx l (pSu l) := by
  have q := sfx_pAt l
  unfold Sfx at q
  unfold pSu
  cases hp : pAt l with
  | mk r o =>
    rw [hp] at q
    cases o with
    | none => exact q
    | some a => exact (sfx_pSl _ _ r).trans q
theorem sfx_pTs (l : List Int) : Sfx l (pTs l) := by
  have q := sfx_pSu l
  unfold Sfx at q
  unfold pTs
  cases hp : pSu l with
  | mk r o =>
    rw [hp] at q
    cases o with
    | none => exact q
    | some e =>
      cases r with
      | nil => exact q
      | cons y t =>
        show Sfx l (if y = 60 ∨ y = 62 ∨ y = 61 then _ else _)
        split
        · have q2 := sfx_pSu t
          unfold Sfx at q2
          cases hp2 : pSu t with
          | mk r2 o2 =>
            rw [hp2] at q2
            cases o2 with
            | none => exact (List.IsSuffix.trans q2 (sfx_cons y t)).trans q
            | some e2 => exact (List.IsSuffix.trans q2 (sfx_cons y t)).trans q
        · exact q
theorem sfx_pTl {F : List Int → PR} (hF : ∀ l, Sfx l (F l)) : ∀ (n : Nat) (e l : List Int), Sfx l (pTl F n e l)
  | 0, _, _ => List.suffix_refl _
  | n + 1, e, [] => List.suffix_refl _
  | n + 1, e, x :: t => by
    unfold pTl
    split
    · have q := hF t
      unfold Sfx at q
      cases hp : F t with
      | mk r o =>
        rw [hp] at q
        cases o with
        | none => exact List.IsSuffix.trans q (sfx_cons x t)
        | some a => exact ((sfx_pTl hF n _ r).trans q).trans (sfx_cons x t)
    · exact List.suffix_refl _
theorem sfx_pTe {F : List Int → PR} (hF : ∀ l, Sfx l (F l)) (l : List Int) : Sfx l (pTe F l) := by
  have q := hF l
  unfold Sfx at q
  unfold pTe
  cases hp : F l with
  | mk r o =>
    rw [hp] at q
    cases o with
    | none => exact q
    | some a => exact (sfx_pTl hF _ _ r).trans q
theorem sfx_pEl {F : List Int → PR} (hF : ∀ l, Sfx l (F l)) : ∀ (n : Nat) (e l : List Int), Sfx l (pEl F n e l)
  | 0, _, _ => List.suffix_refl _
  | n + 1, e, [] => List.suffix_refl _
  | n + 1, e, x :: t => by
    unfold pEl
    split
    · have q := hF t
      unfold Sfx at q
      cases hp : F t with
      | mk r o =>
        rw [hp] at q
        cases o with
        | none => exact List.IsSuffix.trans q (sfx_cons x t)
        | some a => exact ((sfx_pEl hF n _ r).trans q).trans (sfx_cons x t)
    · exact List.suffix_refl _
theorem sfx_pEx {F : List Int → PR} (hF : ∀ l, Sfx l (F l)) (l : List Int) : Sfx l (pEx F l) := by
  have q := hF l
  unfold Sfx at q
  unfold pEx
  cases hp : F l with
  | mk r o =>
    rw [hp] at q
    cases o with
    | none => exact q
    | some a => exact (sfx_pEl hF _ _ r).trans q
theorem sfx_pFa : ∀ (n : Nat) (b : Int) (l : List Int), Sfx l (pFa n b l)
  | 0, _, _ => List.suffix_refl _
  | n + 1, b, [] => List.suffix_refl _
  | n + 1, b, x :: t => by
    unfold pFa pFB
    dsimp only
    split
    · have q := sfx_pFa n b t
      unfold Sfx at q
      cases hp : pFa n b t with
      | mk r o =>
        rw [hp] at q
        cases o with
        | none => exact List.IsSuffix.trans q (sfx_cons x t)
        | some a => exact List.IsSuffix.trans q (sfx_cons x t)
    · split
      · split
        · exact List.suffix_refl _
        · have q := sfx_pEx (sfx_pTe (sfx_pFa n (b + 1))) t
          unfold Sfx at q
          cases hp : pEx (pTe (pFa n (b + 1))) t with
          | mk r o =>
            rw [hp] at q
            cases o with
            | none => exact List.IsSuffix.trans q (sfx_cons x t)
            | some e =>
              cases r with
              | nil => exact List.IsSuffix.trans q (sfx_cons x t)
              | cons y r =>
                show Sfx (x :: t) (if y = 41 then (r, some e) else (y :: r, none))
                split
                · exact ((sfx_cons y r).trans q).trans (sfx_cons x t)
                · exact List.IsSuffix.trans q (sfx_cons x t)
      · exact sfx_pTs (x :: t)
