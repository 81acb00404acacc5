/-! the parser's small steps -/
/-- the sign at place i of a text of n signs, 0 behind its end -/
def tx (h : Hp) (n i : Nat) : Int32 := if i < n then hI h 4 i &&& 255 else 0
/-- a parser at p, over the format b, at place i -/
def Prs (h : Hp) (p b i n : Nat) : Prop := ((hS h p).1 = 4 ∧ hR h p 0 = 3 ∧ hR h p 1 = b ∧ hI h p 2 = iv i) ∧ i ≤ n ∧ Byt h 3 4 n 90 ∧ 231 ≤ p
theorem tx_lt {h : Hp} {n i : Nat} (hx : ¬ tx h n i = 0) : i < n := by
  by_cases c : i < n
  · exact c
  · exact absurd (by unfold tx; rw [if_neg c]) hx
section PARS
variable {d : Nat} {h : Hp} {p b i n : Nat} {K : Int32 → Hp → Prop}
theorem Prs.n90 (P : Prs h p b i n) : n ≤ 90 := P.2.2.1.2.2.2.2.2.1
theorem c_at (P : Prs h p b i n) (k : K (tx h n i) h) : Ca d m_By_at [.ref (hR h p 0), .int (hI h p 2)] h (QI K) := by
  rw [P.1.2.1, P.1.2.2.2]
  have := P.n90
  have := P.2.1
  exact c_By_at P.2.2.1 (by omega) k
theorem c_passSign (P : Prs h p b i n) {c : Int32} (hc : ¬ c = 0) (k0 : ¬ tx h n i = c → K 0 h) (k1 : tx h n i = c → i < n → K 1 (sI h p 2 (iv (i + 1)))) : Ca (d + 1) m_Pa_passSign [.ref p, .int c] h (QI K) := by
  refine w_Pa_passSign ⟨P.1.1, by rw [P.1.2.1]; exact P.2.2.1.1, c_at P ?_⟩
  by_cases e : tx h n i = c
  · rw [if_pos e]
    refine ⟨P.1.1, ?_⟩
    rintro _ rfl
    rw [P.1.2.2.2, iv1, iv_add]
    exact k1 e (tx_lt (by rw [e]; exact hc))
  · rw [if_neg e]; exact k0 e
theorem c_passName (P : Prs h p b i n) (k0 : (tx h n i < 97 ∨ 108 < tx h n i) → K (-1) h) (k1 : ¬ tx h n i < 97 → ¬ 108 < tx h n i → i < n → K (tx h n i - 97) (sI h p 2 (iv (i + 1)))) : Ca (d + 1) m_Pa_passName [.ref p] h (QI K) := by
  refine w_Pa_passName ⟨P.1.1, by rw [P.1.2.1]; exact P.2.2.1.1, c_at P ?_⟩
  by_cases e1 : tx h n i < 97
  · rw [if_pos e1]; exact k0 (Or.inl e1)
  · rw [if_neg e1]
    by_cases e2 : 108 < tx h n i
    · rw [if_pos e2]; exact k0 (Or.inr e2)
    · rw [if_neg e2]
      refine ⟨P.1.1, ?_⟩
      rintro _ rfl
      rw [P.1.2.2.2, iv1, iv_add]
      exact k1 e1 e2 (tx_lt fun q => e1 (by rw [q]; decide))
end PARS
