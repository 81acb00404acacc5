/-- what a store leaves of the slot before -/
def yk (o : Option Value) : Option Value := if is2 o then none else o
theorem cut2_alt {l : Lc} {k : Nat} (hk : k < l.length) : cut2 l (k + 1) = l.set k (yk (l.getD k none)) := by
  show (if is2 (l.getD k none) then l.set k none else l) = _
  unfold yk
  split
  · rfl
  · rw [List.getD_eq_getElem?_getD, List.getElem?_eq_getElem hk]
    simp
theorem st1_alt {l : Lc} {k : Nat} {v : Value} (hk : k < l.length) : st1 l (k + 1) v = (l.set k (yk (l.getD k none))).set (k + 1) (some v) := by unfold st1; rw [cut2_alt hk]
theorem st2_alt {l : Lc} {k : Nat} {v : Value} (hk : k < l.length) : st2 l (k + 1) v = ((l.set k (yk (l.getD k none))).set (k + 1) (some v)).set (k + 1 + 1) none := by unfold st2; rw [cut2_alt hk]
theorem ltb {a b : Nat} (h : Nat.blt a b = true) : a < b := Nat.lt_of_lt_of_eq (by simpa [Nat.blt_eq] using h) rfl
theorem leb {a b : Nat} (h : Nat.ble a b = true) : a ≤ b := Nat.le_of_ble_eq_true h
theorem mem2 {c x y : Nat} (h : c = x ∨ c = y) : c ∈ [x, y] := by simpa using h
theorem swW_c {x k o dflt : Int} {r : List (Int × Int)} {K : Int → Prop} (k1 : x = k → K o) (k2 : ¬ x = k → swW x dflt r K) : swW x dflt ((k, o) :: r) K := by
  unfold swW
  by_cases e : x = k
  · rw [if_pos e]; exact k1 e
  · rw [if_neg e]; exact k2 e
theorem byc {c A B G : Prop} [Decidable c] (hq : if c then A else B) (k1 : c → A → G) (k2 : ¬ c → B → G) : G := by
  by_cases e : c
  · exact k1 e (ifp e hq)
  · exact k2 e (ifn e hq)
section WPS
variable {d : Nat} {m : Mr} {pc : Nat} {l : Lc} {st : List Value} {h : Hp} {Q : Rs → Hp → Prop}
theorem V.tg {off : Int} {t : Nat} (ht : tgt pc off = t) (k : Wp d m t l st h Q) : Wp d m (tgt pc off) l st h Q := by rw [ht]; exact k

theorem V.lc_eq {off : Int} {t : Nat} {x y : Int64} (hd : decode (mB m) pc = .ok (.lcmp, 1)) (hd2 : decode (mB m) (pc + 1) = .ok (.ifCond .eq off, 3)) (ht : okt (pc + 1) off = true ∧ tgt (pc + 1) off = t) (k1 : x = y → Wp d m (t) l st h Q) (k2 : ¬ x = y → Wp d m (pc + 1 + 3) l st h Q) : Wp d m pc l (.long y :: .long x :: st) h Q :=
  V.lcmp hd (V.if_eq hd2 ht (fun hc => k1 ((lg_cmp_eq x y).mp hc)) (fun hc => k2 (fun e => hc ((lg_cmp_eq x y).mpr e))))
theorem V.lc_ne {off : Int} {t : Nat} {x y : Int64} (hd : decode (mB m) pc = .ok (.lcmp, 1)) (hd2 : decode (mB m) (pc + 1) = .ok (.ifCond .ne off, 3)) (ht : okt (pc + 1) off = true ∧ tgt (pc + 1) off = t) (k1 : x = y → Wp d m (pc + 1 + 3) l st h Q) (k2 : ¬ x = y → Wp d m (t) l st h Q) : Wp d m pc l (.long y :: .long x :: st) h Q :=
  V.lcmp hd (V.if_ne hd2 ht (fun hc => k1 ((lg_cmp_eq x y).mp hc)) (fun hc => k2 (fun e => hc ((lg_cmp_eq x y).mpr e))))
theorem V.lc_lt {off : Int} {t : Nat} {x y : Int64} (hd : decode (mB m) pc = .ok (.lcmp, 1)) (hd2 : decode (mB m) (pc + 1) = .ok (.ifCond .lt off, 3)) (ht : okt (pc + 1) off = true ∧ tgt (pc + 1) off = t) (k1 : x < y → Wp d m (t) l st h Q) (k2 : ¬ x < y → Wp d m (pc + 1 + 3) l st h Q) : Wp d m pc l (.long y :: .long x :: st) h Q :=
  V.lcmp hd (V.if_lt hd2 ht (fun hc => k1 ((lg_cmp_lt x y).mp hc)) (fun hc => k2 (fun e => hc ((lg_cmp_lt x y).mpr e))))
theorem V.lc_ge {off : Int} {t : Nat} {x y : Int64} (hd : decode (mB m) pc = .ok (.lcmp, 1)) (hd2 : decode (mB m) (pc + 1) = .ok (.ifCond .ge off, 3)) (ht : okt (pc + 1) off = true ∧ tgt (pc + 1) off = t) (k1 : x < y → Wp d m (pc + 1 + 3) l st h Q) (k2 : ¬ x < y → Wp d m (t) l st h Q) : Wp d m pc l (.long y :: .long x :: st) h Q :=
  V.lcmp hd (V.if_ge hd2 ht (fun hc => k1 ((lg_cmp_lt x y).mp hc)) (fun hc => k2 (fun e => hc ((lg_cmp_lt x y).mpr e))))
theorem V.lc_gt {off : Int} {t : Nat} {x y : Int64} (hd : decode (mB m) pc = .ok (.lcmp, 1)) (hd2 : decode (mB m) (pc + 1) = .ok (.ifCond .gt off, 3)) (ht : okt (pc + 1) off = true ∧ tgt (pc + 1) off = t) (k1 : y < x → Wp d m (t) l st h Q) (k2 : ¬ y < x → Wp d m (pc + 1 + 3) l st h Q) : Wp d m pc l (.long y :: .long x :: st) h Q :=
  V.lcmp hd (V.if_gt hd2 ht (fun hc => k1 ((lg_cmp_gt x y).mp hc)) (fun hc => k2 (fun e => hc ((lg_cmp_gt x y).mpr e))))
theorem V.lc_le {off : Int} {t : Nat} {x y : Int64} (hd : decode (mB m) pc = .ok (.lcmp, 1)) (hd2 : decode (mB m) (pc + 1) = .ok (.ifCond .le off, 3)) (ht : okt (pc + 1) off = true ∧ tgt (pc + 1) off = t) (k1 : y < x → Wp d m (pc + 1 + 3) l st h Q) (k2 : ¬ y < x → Wp d m (t) l st h Q) : Wp d m pc l (.long y :: .long x :: st) h Q :=
  V.lcmp hd (V.if_le hd2 ht (fun hc => k1 ((lg_cmp_gt x y).mp hc)) (fun hc => k2 (fun e => hc ((lg_cmp_gt x y).mpr e))))
end WPS
