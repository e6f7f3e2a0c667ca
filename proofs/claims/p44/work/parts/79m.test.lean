/-! ===== test: bits and parts ===== -/
theorem or_and3 (a b c : Int32) : (a ||| b) &&& c = (a &&& c) ||| (b &&& c) := by
  apply Int32.toBitVec_inj.mp
  simp only [Int32.toBitVec_and, Int32.toBitVec_or]
  ext i
  simp [Bool.and_or_distrib_right]
theorem bit_one : ∀ th, th < 10 → ∀ j, j < 10 → ((((1 : Int32) <<< (nI j &&& 31)) >>> (nI th &&& 31)) &&& 1) = if th = j then 1 else 0 := by decide
theorem bit_nz : ∀ j, j < 10 → ¬ ((1 : Int32) <<< (nI j &&& 31)) = 0 := by decide
theorem bit_zero : ∀ th, th < 10 → (((0 : Int32) >>> (nI th &&& 31)) &&& 1) = 0 := by decide
theorem bit_get {P : Nat → Prop} [DecidablePred P] {th : Nat} (ht : th < 10) : ∀ n, n ≤ 10 → ((bitI P n >>> (nI th &&& 31)) &&& 1) = if th < n ∧ P th then 1 else 0
  | 0, _ => by
    rw [if_neg (fun z => absurd z.1 (by omega))]
    exact bit_zero th ht
  | n + 1, hn => by
    have ih := bit_get (P := P) ht n (by omega)
    show (((bitI P n ||| (if P n then ((1 : Int32) <<< (nI n &&& 31)) else 0)) >>> (nI th &&& 31)) &&& 1) = _
    rw [Int32.shiftRight_or, or_and3, ih]
    by_cases q : P n
    · rw [if_pos q, bit_one th ht n (by omega)]
      by_cases z : th = n
      · subst z
        rw [if_neg (fun y => absurd y.1 (by omega)), if_pos rfl, if_pos ⟨by omega, q⟩]; rfl
      · rw [if_neg z]
        by_cases y : th < n ∧ P th
        · rw [if_pos y, if_pos ⟨by omega, y.2⟩]; rfl
        · rw [if_neg y, if_neg (fun x => y ⟨by omega, x.2⟩)]; rfl
    · rw [if_neg q, bit_zero th ht]
      by_cases y : th < n ∧ P th
      · rw [if_pos y, if_pos ⟨by omega, y.2⟩]; rfl
      · rw [if_neg y, if_neg (fun x => y ⟨(by
          rcases Nat.lt_or_ge th n with k | k
          · exact k
          · exact absurd (show P n by rw [show n = th by omega]; exact x.2) q), x.2⟩)]; rfl
theorem bit_any {P : Nat → Prop} [DecidablePred P] : ∀ n, n ≤ 10 → (bitI P n = 0 ↔ ∀ j, j < n → ¬ P j)
  | 0, _ => ⟨fun _ j hj => absurd hj (by omega), fun _ => rfl⟩
  | n + 1, hn => by
    have ih := bit_any (P := P) n (by omega)
    show ((bitI P n ||| (if P n then ((1 : Int32) <<< (nI n &&& 31)) else 0)) = 0) ↔ _
    rw [Int32.or_eq_zero_iff, ih]
    constructor
    · intro ⟨h1, h2⟩ j hj
      by_cases y : j = n
      · intro q
        rw [if_pos (y ▸ q)] at h2
        exact bit_nz n (by omega) h2
      · exact h1 j (by omega)
    · intro h
      exact ⟨fun j hj => h j (by omega), if_neg (h n (by omega))⟩
/-- how many fall on v, the most of them, how many in all -/
def cntE (P : Nat → Prop) [DecidablePred P] (c : Nat → Nat) : Nat → Nat → Nat
  | 0, _ => 0
  | e + 1, v => if P e ∧ c e = v then cntE P c e v + 1 else cntE P c e v
def mosE (P : Nat → Prop) [DecidablePred P] (c : Nat → Nat) : Nat → Nat
  | 0 => 0
  | e + 1 => if P e then (if mosE P c e < cntE P c (e + 1) (c e) then cntE P c (e + 1) (c e) else mosE P c e) else mosE P c e
def numE (P : Nat → Prop) [DecidablePred P] : Nat → Nat
  | 0 => 0
  | e + 1 => if P e then numE P e + 1 else numE P e
theorem cntE_le {P : Nat → Prop} [DecidablePred P] {c : Nat → Nat} : ∀ e v, cntE P c e v ≤ e
  | 0, _ => Nat.le_refl _
  | e + 1, v => by
    have := cntE_le (P := P) (c := c) e v
    show (if P e ∧ c e = v then cntE P c e v + 1 else cntE P c e v) ≤ _
    split <;> omega
theorem mosE_le {P : Nat → Prop} [DecidablePred P] {c : Nat → Nat} : ∀ e, mosE P c e ≤ e
  | 0 => Nat.le_refl _
  | e + 1 => by
    have h1 := mosE_le (P := P) (c := c) e
    have h2 := cntE_le (P := P) (c := c) (e + 1) (c e)
    show (if P e then (if mosE P c e < cntE P c (e + 1) (c e) then cntE P c (e + 1) (c e) else mosE P c e) else mosE P c e) ≤ _
    split
    · split <;> omega
    · omega
theorem numE_le {P : Nat → Prop} [DecidablePred P] : ∀ e, numE P e ≤ e
  | 0 => Nat.le_refl _
  | e + 1 => by
    have := numE_le (P := P) e
    show (if P e then numE P e + 1 else numE P e) ≤ _
    split <;> omega
theorem numE_0 {P : Nat → Prop} [DecidablePred P] : ∀ e, numE P e = 0 ↔ ∀ j, j < e → ¬ P j
  | 0 => ⟨fun _ j hj => absurd hj (by omega), fun _ => rfl⟩
  | e + 1 => by
    have ih := numE_0 (P := P) e
    show (if P e then numE P e + 1 else numE P e) = 0 ↔ _
    by_cases q : P e
    · rw [if_pos q]
      exact ⟨fun z => absurd z (by omega), fun z => absurd q (z e (by omega))⟩
    · rw [if_neg q, ih]
      refine ⟨fun z j hj => ?_, fun z j hj => z j (by omega)⟩
      by_cases y : j = e
      · rw [y]; exact q
      · exact z j (by omega)
theorem cntE_yes {P : Nat → Prop} [DecidablePred P] {c : Nat → Nat} {e : Nat} (h : P e) : cntE P c (e + 1) (c e) = cntE P c e (c e) + 1 := if_pos ⟨h, rfl⟩
theorem cntE_oth {P : Nat → Prop} [DecidablePred P] {c : Nat → Nat} {e v : Nat} (h : c e ≠ v) : cntE P c (e + 1) v = cntE P c e v := if_neg (fun z => h z.2)
theorem cntE_no {P : Nat → Prop} [DecidablePred P] {c : Nat → Nat} {e v : Nat} (h : ¬ P e) : cntE P c (e + 1) v = cntE P c e v := if_neg (fun z => h z.1)
theorem mosE_yes {P : Nat → Prop} [DecidablePred P] {c : Nat → Nat} {e : Nat} (h : P e) : mosE P c (e + 1) = if mosE P c e < cntE P c (e + 1) (c e) then cntE P c (e + 1) (c e) else mosE P c e := if_pos h
theorem mosE_no {P : Nat → Prop} [DecidablePred P] {c : Nat → Nat} {e : Nat} (h : ¬ P e) : mosE P c (e + 1) = mosE P c e := if_neg h
theorem numE_yes {P : Nat → Prop} [DecidablePred P] {e : Nat} (h : P e) : numE P (e + 1) = numE P e + 1 := if_pos h
theorem numE_no {P : Nat → Prop} [DecidablePred P] {e : Nat} (h : ¬ P e) : numE P (e + 1) = numE P e := if_neg h
/-- the best night, and its greatest part -/
def bstE (mo : Nat → Nat) : Nat → Nat × Nat
  | 0 => (0, 1000000)
  | m + 1 => if mo m < (bstE mo m).2 then (m, mo m) else bstE mo m
theorem bstE_yes {mo : Nat → Nat} {m : Nat} (h : mo m < (bstE mo m).2) : bstE mo (m + 1) = (m, mo m) := if_pos h
theorem bstE_no {mo : Nat → Nat} {m : Nat} (h : ¬ mo m < (bstE mo m).2) : bstE mo (m + 1) = bstE mo m := if_neg h
theorem bstE_le {mo : Nat → Nat} (h : ∀ m, mo m ≤ 60) : ∀ m, (bstE mo m).1 ≤ m ∧ (bstE mo m).2 ≤ 1000000 ∧ (0 < m → (bstE mo m).2 ≤ 60)
  | 0 => ⟨Nat.le_refl _, Nat.le_refl _, fun z => absurd z (by omega)⟩
  | m + 1 => by
    have ih := bstE_le h m
    have := h m
    by_cases q : mo m < (bstE mo m).2
    · rw [bstE_yes q]
      exact ⟨by show m ≤ _; omega, by show mo m ≤ _; omega, fun _ => by show mo m ≤ _; omega⟩
    · rw [bstE_no q]
      exact ⟨by omega, ih.2.1, fun _ => by omega⟩
abbrev FE (T : Tn) (i : Nat) (f : Nat → Int32) (p e : Nat) : Prop := fitP T i (e / 10) (e % 10) f p
abbrev crE (T : Tn) (i m e : Nat) : Nat := crN (e / 10) (gapT T i i) (e % 10) m (T (39 + m % 4))
abbrev moE (T : Tn) (i : Nat) (f : Nat → Int32) (p m : Nat) : Nat := mosE (FE T i f p) (crE T i m) 60
