/-! the law's loop, over what the calls do -/
def OpF (d : Nat) : Prop := ∀ (n db cb : Nat) (h : Hp), Inv n db cb h → n ≤ 600 → Ca (d + 40) m_Ff_fault [.ref 2] h (QI fun v h1 => (Mid h h1 ∧ (hS h1 197).1 = 8) ∧ Ca (d + 40) m_Mo_fault [.ref 197] h1 (QI fun b h2 => Res2 n h v b h2))
def OpC (d : Nat) : Prop := ∀ (n db cb : Nat) (h : Hp), Inv n db cb h → n ≤ 600 → Ca (d + 40) m_La_compile [.ref 2, .ref 229] h (QI fun v h1 => (Mid h h1 ∧ (hS h1 197).1 = 8) ∧ Ca (d + 40) m_Mo_compile [.ref 197] h1 (QI fun b h2 => Res n h v b.toInt64 h2))
def OpR (d : Nat) : Prop := ∀ (n db cb : Nat) (h : Hp), Inv n db cb h → n ≤ 600 → Ca (d + 40) m_La_read [.ref 2, .ref 229] h (QI fun v h1 => (Mid h h1 ∧ (hS h1 197).1 = 8) ∧ Ca (d + 40) m_Mo_read [.ref 197] h1 (QI fun b h2 => Res n h v b.toInt64 h2))
def OpW (d : Nat) : Prop := ∀ (n db cb : Nat) (h : Hp), Inv n db cb h → n ≤ 600 → Ca (d + 40) m_La_write [.ref 2, .ref 229] h (QI fun v h1 => (Mid h h1 ∧ (hS h1 197).1 = 8) ∧ Ca (d + 40) m_Mo_write [.ref 197] h1 (QI fun b h2 => Res n h v b.toInt64 h2))
def OpS (d : Nat) : Prop := ∀ (n db cb : Nat) (h : Hp), Inv n db cb h → n ≤ 600 → ∀ x : Int32, x = 0 ∨ x = 1 → Ca (d + 40) m_La_size [.ref 2, .int x, .ref 229] h (QI fun v h1 => (Mid h h1 ∧ (hS h1 197).1 = 8) ∧ Ca (d + 40) m_Mo_size [.ref 197, .int x] h1 (QI fun b h2 => Res n h v b.toInt64 h2))
def OpD (d : Nat) : Prop := ∀ (n db cb : Nat) (h : Hp), Inv n db cb h → n ≤ 600 → ∀ x : Int32, Ca (d + 40) m_La_real [.ref 2, .int x, .ref 230] h (QI fun v h1 => (Mid h h1 ∧ (hS h1 197).1 = 8) ∧ Ca (d + 40) m_Mo_real [.ref 197, .int x] h1 (QD fun b h2 => ResD n h v b h2))
theorem QL.imp {K K' : Int64 → Hp → Prop} {d : Nat} {m : Mr} {as : List Value} {h : Hp} (a : Ca d m as h (QL K)) (k : ∀ v h', K v h' → K' v h') : Ca d m as h (QL K') := Wp.imp a fun r h' ⟨v, e, q⟩ => ⟨v, e, k v h' q⟩
theorem QD.imp {K K' : UInt64 → Hp → Prop} {d : Nat} {m : Mr} {as : List Value} {h : Hp} (a : Ca d m as h (QD K)) (k : ∀ v h', K v h' → K' v h') : Ca d m as h (QD K') := Wp.imp a fun r h' ⟨v, e, q⟩ => ⟨v, e, k v h' q⟩
section LAW
variable {d n : Nat} {h h2 : Hp}
theorem thr_fin {v : Int32} {b : Int64} (R : Res n h v b h2) {W K : Hp → Prop} (w : W h2) : (hS h2 197).1 = 8 ∧ Ca d m_Mo_thrown [.ref 197] h2 (QI fun v39 h40 => if v39 = v then (if v = 0 then ((hS h40 229).1 = 21 ∧ (ainr (0 : Int32) (hS h40 229).2 = true ∧ (if (hL h40 229 (0 : Int32).toNatClampNeg) = b then W h40 else K h40))) else W h40) else K h40) := by
  obtain ⟨r1, ⟨db, cb, I⟩, r3, r4⟩ := R
  refine ⟨I.m8, w_Mo_thrown ⟨I.m8, ?_⟩⟩
  rw [r3, if_pos rfl]
  by_cases c : v = 0
  · rw [if_pos c, I.s229]
    refine ⟨rfl, rfl, ?_⟩
    rw [if_pos (show hL h2 229 (0 : Int32).toNatClampNeg = b from r4 c)]; exact w
  · rw [if_neg c]; exact w
theorem len_lt {L k : Nat} (hL : L ≤ 2048) (hk : k ≤ 4000) : (Int32.ofNat L - (4 : Int32)) < iv k ↔ L < k + 4 := by
  by_cases c : L < 4
  · have h1 : (Int32.ofNat L - (4 : Int32)).toInt < 0 := by
      have : ∀ t : _root_.Fin 4, (Int32.ofNat t.val - (4 : Int32)).toInt < 0 := by decide +kernel
      exact this ⟨L, c⟩
    rw [Int32.lt_iff_toInt_lt, iv_toInt (by omega)]
    omega
  · have e : Int32.ofNat L - (4 : Int32) = iv (L - 4) := iv_sub (a := L) (b := 4) (by omega)
    rw [e, iv_lt (by omega) (by omega)]; omega
set_option maxHeartbeats 4000000 in
theorem law_loop (oF : OpF d) (oC : OpC d) (oR : OpR d) (oW : OpW d) (oS : OpS d) (oD : OpD d) {K : Int32 → Hp → Prop} (kend : ∀ h, K 1 h) {L : Nat} (hL : L ≤ 2048) : ∀ (r n db cb : Nat) (h : Hp) (y6 y7 y8 : Option Value), L ≤ 4 * n + r → 4 * n ≤ L → Inv n db cb h → hS h 1 = (20, L) →
    Wp (d + 41) m_La_law 28 [some (.ref 1), some (.ref 2), some (.ref 197), some (.ref 229), some (.ref 230), some (.int (iv (4 * n))), y6, y7, y8] [] h (QI K) := by
  intro r
  induction r with
  | zero =>
    intro n db cb h y6 y7 y8 hr hn I sc
    refine w_La_law_28 ?_
    rw [sc]
    refine ⟨rfl, ?_⟩
    rw [if_pos ((len_lt hL (by omega)).mpr (by omega))]
    exact kend h
  | succ r ih =>
    intro n db cb h y6 y7 y8 hr hn I sc
    have IH : ∀ (h2 : Hp) (y6 y7 y8 : Option Value), Mid h h2 → (∃ db cb, Inv (n + 1) db cb h2) → 4 * n + 4 ≤ L → Wp (d + 41) m_La_law 1006 [some (.ref 1), some (.ref 2), some (.ref 197), some (.ref 229), some (.ref 230), some (.int (iv (4 * n))), y6, y7, y8] [] h2 (QI K) := by
      intro h2 y6 y7 y8 mid ⟨db, cb, I2⟩ hl
      refine w_La_law_1006 ?_
      rintro _ rfl
      rw [show (4 : Int32) = iv 4 from rfl, iv_add, show 4 * n + 4 = 4 * (n + 1) by omega]
      exact ih (n + 1) db cb h2 y6 y7 y8 (by omega) (by omega) I2 (by rw [mid.1]; exact sc)
    refine w_La_law_28 ?_
    rw [sc]
    refine ⟨rfl, ?_⟩
    by_cases c0 : L < 4 * n + 4
    · rw [if_pos ((len_lt hL (by omega)).mpr c0)]; exact kend h
    · rw [if_neg (fun q => c0 ((len_lt hL (by omega)).mp q))]
      have hn6 : n ≤ 600 := by omega
      have hl4 : 4 * n + 4 ≤ L := by omega
      have a0 : ainr (iv (4 * n)) L = true := ainr_iv (by omega) (by omega)
      have a1 : ainr (iv (4 * n) + 1) L = true := by rw [iv1, iv_add]; exact ainr_iv (by omega) (by omega)
      have a2 : ainr (iv (4 * n) + 2) L = true := by rw [show (2 : Int32) = iv 2 from rfl, iv_add]; exact ainr_iv (by omega) (by omega)
      have a3 : ainr (iv (4 * n) + 3) L = true := by rw [show (3 : Int32) = iv 3 from rfl, iv_add]; exact ainr_iv (by omega) (by omega)
      refine ⟨rfl, a0, ?_⟩
      generalize (hI h 1 (iv (4 * n)).toNatClampNeg &&& (15 : Int32)).toInt = cc
      by_cases c1 : cc = 0
      · rw [if_pos c1]
        refine ⟨a1, a2, ?_⟩
        refine QI.imp (op_type I hn6 _) fun v h1 q => ?_
        obtain ⟨⟨mid, m8⟩, q⟩ := q
        rw [mid.1, mid.2, sc]
        refine ⟨rfl, a1, a2, m8, QI.imp q fun b h2 R => ?_⟩
        exact thr_fin R (IH h2 _ _ _ R.1 R.2.1 hl4)
      rw [if_neg c1]
      by_cases c2 : cc = 1
      · rw [if_pos c2]
        refine ⟨I.s2, ?_⟩
        refine QI.imp (op_clear I) fun v h1 q => ?_
        obtain ⟨⟨mid, m8⟩, q⟩ := q
        refine ⟨m8, QI.imp q fun b h2 R => ?_⟩
        rw [if_pos R.2.2]; exact IH h2 _ _ _ R.1 R.2.1 hl4
      rw [if_neg c2]
      by_cases c3 : cc = 2
      · rw [if_pos c3]
        refine ⟨I.s2, ?_⟩
        refine QI.imp (oF n db cb h I hn6) fun v h1 q => ?_
        obtain ⟨⟨mid, m8⟩, q⟩ := q
        refine ⟨m8, QI.imp q fun b h2 R => ?_⟩
        rw [if_pos R.2.2]; exact IH h2 _ _ _ R.1 R.2.1 hl4
      rw [if_neg c3]
      by_cases c4 : cc = 3
      · rw [if_pos c4]
        refine QI.imp (oC n db cb h I hn6) fun v h1 q => ?_
        obtain ⟨⟨mid, m8⟩, q⟩ := q
        refine ⟨m8, QI.imp q fun b h2 R => ?_⟩
        exact thr_fin R (IH h2 _ _ _ R.1 R.2.1 hl4)
      rw [if_neg c4]
      by_cases c5 : cc = 4
      · rw [if_pos c5]
        refine ⟨a1, ?_⟩
        by_cases cz : hI h 1 (iv (4 * n) + 1).toNatClampNeg = 0
        · rw [if_pos cz]
          refine QI.imp (oS n db cb h I hn6 0 (Or.inl rfl)) fun v h1 q => ?_
          obtain ⟨⟨mid, m8⟩, q⟩ := q
          rw [mid.1, mid.2, sc, if_pos cz]
          refine ⟨rfl, a1, m8, QI.imp q fun b h2 R => ?_⟩
          exact thr_fin R (IH h2 _ _ _ R.1 R.2.1 hl4)
        · rw [if_neg cz]
          refine QI.imp (oS n db cb h I hn6 1 (Or.inr rfl)) fun v h1 q => ?_
          obtain ⟨⟨mid, m8⟩, q⟩ := q
          rw [mid.1, mid.2, sc, if_neg cz]
          refine ⟨rfl, a1, m8, QI.imp q fun b h2 R => ?_⟩
          exact thr_fin R (IH h2 _ _ _ R.1 R.2.1 hl4)
      rw [if_neg c5]
      by_cases c6 : cc = 5
      · rw [if_pos c6]
        refine ⟨a1, a2, a3, ?_⟩
        refine QI.imp (op_put I hn6 _ _) fun v h1 q => ?_
        obtain ⟨⟨mid, m8⟩, q⟩ := q
        rw [mid.1, mid.2, sc]
        refine ⟨rfl, a1, a2, a3, m8, QI.imp q fun b h2 R => ?_⟩
        exact thr_fin R (IH h2 _ _ _ R.1 R.2.1 hl4)
      rw [if_neg c6]
      by_cases c7 : cc = 6
      · rw [if_pos c7]
        refine ⟨a1, ?_⟩
        refine QI.imp (op_cut I hn6 _) fun v h1 q => ?_
        obtain ⟨⟨mid, m8⟩, q⟩ := q
        rw [mid.1, mid.2, sc]
        refine ⟨rfl, a1, m8, QI.imp q fun b h2 R => ?_⟩
        exact thr_fin R (IH h2 _ _ _ R.1 R.2.1 hl4)
      rw [if_neg c7]
      by_cases c8 : cc = 7
      · rw [if_pos c8]
        refine QI.imp (oR n db cb h I hn6) fun v h1 q => ?_
        obtain ⟨⟨mid, m8⟩, q⟩ := q
        refine ⟨m8, QI.imp q fun b h2 R => ?_⟩
        exact thr_fin R (IH h2 _ _ _ R.1 R.2.1 hl4)
      rw [if_neg c8]
      by_cases c9 : cc = 8
      · rw [if_pos c9]
        refine QI.imp (oW n db cb h I hn6) fun v h1 q => ?_
        obtain ⟨⟨mid, m8⟩, q⟩ := q
        refine ⟨m8, QI.imp q fun b h2 R => ?_⟩
        exact thr_fin R (IH h2 _ _ _ R.1 R.2.1 hl4)
      rw [if_neg c9]
      by_cases c10 : cc = 9
      · rw [if_pos c10]
        refine ⟨a1, ?_⟩
        refine QI.imp (op_value I hn6 _) fun v h1 q => ?_
        obtain ⟨⟨mid, m8⟩, q⟩ := q
        rw [mid.1, mid.2, sc]
        refine ⟨rfl, a1, m8, QL.imp q fun b h2 R => ?_⟩
        exact thr_fin R (IH h2 _ _ _ R.1 R.2.1 hl4)
      rw [if_neg c10]
      by_cases c11 : cc = 10
      · rw [if_pos c11]
        refine ⟨a1, ?_⟩
        refine QI.imp (oD n db cb h I hn6 _) fun v h1 q => ?_
        obtain ⟨⟨mid, m8⟩, q⟩ := q
        rw [mid.1, mid.2, sc]
        refine ⟨rfl, a1, m8, QD.imp q fun b h2 R => ?_⟩
        obtain ⟨r1, ⟨db, cb, I2⟩, r3, r4⟩ := R
        refine ⟨I2.m8, w_Mo_thrown ⟨I2.m8, ?_⟩⟩
        have w := IH h2 (some (.int v)) y7 y8 r1 ⟨db, cb, I2⟩ hl4
        rw [r3, if_pos rfl]
        by_cases cv : v = 0
        · rw [if_pos cv, I2.2.1.2.2.2]
          refine ⟨rfl, rfl, ?_⟩
          rcases r4 cv with z | ⟨z1, z2⟩
          · rw [if_pos (show Op.cmpValue (FP.dcmp (hD h2 230 (0 : Int32).toNatClampNeg) b) .l = 0 from z)]; exact IH h2 _ _ _ r1 ⟨db, cb, I2⟩ hl4
          · by_cases z3 : Op.cmpValue (FP.dcmp (hD h2 230 (0 : Int32).toNatClampNeg) b) .l = 0
            · rw [if_pos z3]; exact IH h2 _ _ _ r1 ⟨db, cb, I2⟩ hl4
            · rw [if_neg z3, if_neg (show ¬ Op.cmpValue (FP.dcmp (hD h2 230 (0 : Int32).toNatClampNeg) (hD h2 230 (0 : Int32).toNatClampNeg)) .l = 0 from z1), if_neg z2]; exact IH h2 _ _ _ r1 ⟨db, cb, I2⟩ hl4
        · rw [if_neg cv]; exact IH h2 _ _ _ r1 ⟨db, cb, I2⟩ hl4
      rw [if_neg c11]
      by_cases c12 : cc = 11
      · rw [if_pos c12]
        refine ⟨a1, a2, a3, ?_⟩
        refine QI.imp (op_set I hn6 _ _) fun v h1 q => ?_
        obtain ⟨⟨mid, m8⟩, q⟩ := q
        rw [mid.1, mid.2, sc]
        refine ⟨rfl, a1, a2, a3, m8, QI.imp q fun b h2 R => ?_⟩
        exact thr_fin R (IH h2 _ _ _ R.1 R.2.1 hl4)
      rw [if_neg c12]
      by_cases c13 : cc = 12
      · rw [if_pos c13]
        refine ⟨a1, a2, ?_⟩
        refine QI.imp (op_drop I hn6 _ _) fun v h1 q => ?_
        obtain ⟨⟨mid, m8⟩, q⟩ := q
        rw [mid.1, mid.2, sc]
        refine ⟨rfl, a1, a2, m8, QI.imp q fun b h2 R => ?_⟩
        exact thr_fin R (IH h2 _ _ _ R.1 R.2.1 hl4)
      rw [if_neg c13]
      by_cases c14 : cc = 13
      · rw [if_pos c14]
        refine ⟨a1, ?_⟩
        refine QI.imp (op_byteAt I hn6 _) fun v h1 q => ?_
        obtain ⟨⟨mid, m8⟩, q⟩ := q
        rw [mid.1, mid.2, sc]
        refine ⟨rfl, a1, m8, QI.imp q fun b h2 R => ?_⟩
        exact thr_fin R (IH h2 _ _ _ R.1 R.2.1 hl4)
      rw [if_neg c14]
      by_cases c15 : cc = 14
      · rw [if_pos c15]
        refine ⟨a1, ?_⟩
        refine QI.imp (op_count I hn6 _) fun v h1 q => ?_
        obtain ⟨⟨mid, m8⟩, q⟩ := q
        rw [mid.1, mid.2, sc]
        refine ⟨rfl, a1, m8, QI.imp q fun b h2 R => ?_⟩
        exact thr_fin R (IH h2 _ _ _ R.1 R.2.1 hl4)
      rw [if_neg c15]
      refine IH h _ _ _ (Mid.refl h) ⟨db, cb, ?_⟩ hl4
      exact I.thin (Lo.refl h) ⟨by omega, by omega, by omega⟩ (fun _ _ _ => rfl) (fun _ _ => rfl) (fun _ _ => rfl) (fun _ _ => rfl)
end LAW
