/-! ===== one bed alone is as that bed among all ===== -/
def keyB (i a : Nat) : Prop := a = 1 ∨ a = 3 + i ∨ a = 9 + i ∨ a = 15 + i ∨ a = 21 + i ∨ a = 27 + i ∨ 39 ≤ a
def agr (i : Nat) (T U : Tn) : Prop := ∀ a, keyB i a → T a = U a
theorem agr.rf {i : Nat} {T : Tn} : agr i T T := fun _ _ => rfl
theorem agr.tr {i : Nat} {T U V : Tn} (h : agr i T U) (h2 : agr i U V) : agr i T V := fun a q => (h a q).trans (h2 a q)
theorem cross_agr {i m : Nat} {T U : Tn} (h : agr i T U) : crossT T i m = crossT U i m := by
  unfold crossT gapT
  rw [h (3 + i) (by unfold keyB; omega), h (9 + i) (by unfold keyB; omega), h (15 + i) (by unfold keyB; omega), h (21 + i) (by unfold keyB; omega), h (39 + m % 4) (by unfold keyB; omega)]
theorem upd_agr {i j v w : Nat} {T U : Tn} (h : agr i T U) (e : v = w) : agr i (updT T j v) (updT U j w) := fun a q => by
  unfold updT
  by_cases z : a = j
  · rw [if_pos z, if_pos z, e]
  · rw [if_neg z, if_neg z]; exact h a q
theorem sleep_agr {i : Nat} {T U : Tn} (h : agr i T U) : agr i (sleepT T i) (sleepT U i) := by
  have e1 : T 1 = U 1 := h 1 (Or.inl rfl)
  have ec : crossT T i (T 1) = crossT U i (U 1) := by rw [e1]; exact cross_agr h
  have e27 := h (27 + i) (by unfold keyB; omega)
  have e21 := h (21 + i) (by unfold keyB; omega)
  unfold sleepT
  rw [ec, e27, e21]
  by_cases z : 3 ≤ crossT U i (U 1)
  · rw [if_pos z, if_pos z]; exact upd_agr (upd_agr h rfl) rfl
  · rw [if_neg z, if_neg z]; exact upd_agr h rfl
theorem sleep_oth {i j : Nat} {T : Tn} (hi : i < 6) (hj : j < 6) (hn : j ≠ i) : agr i (sleepT T j) T := fun a q => by
  unfold keyB at q
  unfold sleepT
  split
  · rw [upd_ne (by omega), upd_ne (by omega)]
  · rw [upd_ne (by omega)]
theorem passL_agr {i : Nat} {T U : Tn} (h : agr i T U) (hi : i < 6) : ∀ n, n ≤ 6 → agr i (passL T n) (if i < n then sleepT U i else U)
  | 0, _ => by rw [if_neg (by omega)]; exact h
  | n + 1, hn => by
    have ih := passL_agr h hi n (by omega)
    show agr i (sleepT (passL T n) n) _
    by_cases z : n = i
    · subst z
      rw [if_neg (by omega)] at ih
      rw [if_pos (by omega)]
      exact sleep_agr ih
    · refine (sleep_oth hi (by omega) z).tr ?_
      by_cases y : i < n
      · rw [if_pos y] at ih; rw [if_pos (by omega)]; exact ih
      · rw [if_neg y] at ih; rw [if_neg (by omega)]; exact ih
/-- so many nights for all -/
def passN (T : Tn) : Nat → Tn
  | 0 => T
  | n + 1 => passT (passN T n)
theorem passN_0 {T : Tn} : ∀ n, passN T n 0 = T 0
  | 0 => rfl
  | n + 1 => (pass_0 _).trans (passN_0 n)
theorem alone_agr {i : Nat} {T : Tn} (hi : i < T 0) (h6 : T 0 ≤ 6) : ∀ n, agr i (passN T n) (aloneT T i n)
  | 0 => agr.rf
  | n + 1 => by
    have ih := alone_agr hi h6 n
    have h := passL_agr ih (show i < 6 by omega) (passN T n 0) (by rw [passN_0]; exact h6)
    rw [passN_0, if_pos hi] at h
    show agr i (updT (passL (passN T n) (passN T n 0)) 1 (passN T n 1 + 1)) (updT (sleepT (aloneT T i n) i) 1 ((aloneT T i n) 1 + 1))
    rw [passN_0]
    exact upd_agr h (by rw [ih 1 (Or.inl rfl)])
