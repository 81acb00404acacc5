section FIG
variable {d : Nat} {p b n : Nat} {K : Int32 → Hp → Prop}
theorem Prs.adv {h : Hp} {i : Nat} (P : Prs h p b i n) (hi : i < n) : Prs (sI h p 2 (iv (i + 1))) p b (i + 1) n := by
  obtain ⟨⟨p1, p2, p3, p4⟩, p5, p6, p7⟩ := P
  exact ⟨⟨p1, p2, p3, hI_s⟩, by omega, p6.mono (Sm.sI (by omega)) (Sm.sI (by omega)), p7⟩
theorem tx_adv {h : Hp} {j : Nat} {v : Int32} (hp : ¬ 4 = p) : tx (sI h p j v) n = tx h n := by
  funext i; unfold tx; rw [hI_ne hp]
end FIG
theorem sI_sI (h : Hp) (a j : Nat) (v v' : Int32) : sI (sI h a j v) a j v' = sI h a j v' := by
  unfold sI up2
  congr 1
  funext b k
  by_cases c : b = a ∧ k = j
  · rw [if_pos c, if_pos c]
  · rw [if_neg c, if_neg c]
    show (if b = a ∧ k = j then v else h.1 b k) = _
    rw [if_neg c]
/-- a digit at place i -/
def dg (t : Nat → Int32) (i : Nat) : Prop := ¬ t i - 48 < 0 ∧ ¬ 9 < t i - 48
/-- the figure of m digits from place i -/
def fgv (t : Nat → Int32) (i : Nat) : Nat → Int32
  | 0 => -1
  | m + 1 => (if fgv t i m < 0 then 0 else fgv t i m) * 10 + (t (i + m) - 48)
section FIG2
variable {d : Nat} {p b n : Nat} {K : Int32 → Hp → Prop}
theorem fig_loop {h : Hp} {i : Nat} (hp : 231 ≤ p) (k : ∀ m, m ≤ 3 → (∀ j, j < m → dg (tx h n) (i + j)) → (m = 3 ∨ ¬ dg (tx h n) (i + m)) → K (fgv (tx h n) i m) (sI h p 2 (iv (i + m)))) : ∀ (r m : Nat) (y3 : Option Value), m + r = 3 → Prs (sI h p 2 (iv (i + m))) p b (i + m) n → (∀ j, j < m → dg (tx h n) (i + j)) →
    Wp (d + 1) m_Pa_passFigure 4 [some (.ref p), some (.int (fgv (tx h n) i m)), some (.int (iv m)), y3] [] (sI h p 2 (iv (i + m))) (QI K)
  | 0, m, y3, hm, P, hd => by
    have : m = 3 := by omega
    subst this
    refine w_Pa_passFigure_4 ?_
    rw [if_neg (by decide)]
    exact k 3 (Nat.le_refl 3) hd (Or.inl rfl)
  | r + 1, m, y3, hm, P, hd => by
    refine w_Pa_passFigure_4 ?_
    rw [show (3 : Int32) = iv 3 from rfl, if_pos ((iv_lt (by omega) (by omega)).mpr (by omega))]
    refine ⟨P.1.1, by rw [P.1.2.1]; exact P.2.2.1.1, c_at P ?_⟩
    rw [tx_adv (by omega)]
    rintro _ rfl
    by_cases c1 : tx h n (i + m) - 48 < 0
    · rw [if_pos c1]; exact k m (by omega) hd (Or.inr fun q => q.1 c1)
    · rw [if_neg c1]
      by_cases c2 : 9 < tx h n (i + m) - 48
      · rw [if_pos c2]; exact k m (by omega) hd (Or.inr fun q => q.2 c2)
      · rw [if_neg c2]
        have hlt : i + m < n := tx_lt (h := h) fun q => c1 (by rw [q]; decide)
        refine ⟨P.1.1, ?_⟩
        rintro _ rfl _ rfl _ rfl
        rw [P.1.2.2.2, iv1, iv_add, iv_add, sI_sI]
        have P' := P.adv hlt
        rw [sI_sI] at P'
        exact fig_loop hp k r (m + 1) _ (by omega) P' fun j hj => by
          by_cases e : j = m
          · subst e; exact ⟨c1, c2⟩
          · exact hd j (by omega)
end FIG2
theorem sI_id {h : Hp} {a j : Nat} {v : Int32} (e : hI h a j = v) : sI h a j v = h := by
  obtain ⟨f, r⟩ := h
  show (up2 f a j v, r) = (f, r)
  congr 1
  funext b k
  unfold up2
  by_cases c : b = a ∧ k = j
  · rw [if_pos c, c.1, c.2]; exact e.symm
  · rw [if_neg c]
theorem c_passFigure {d p b n i : Nat} {h : Hp} {K : Int32 → Hp → Prop} (P : Prs h p b i n) (k : ∀ m, m ≤ 3 → (∀ j, j < m → dg (tx h n) (i + j)) → (m = 3 ∨ ¬ dg (tx h n) (i + m)) → K (fgv (tx h n) i m) (sI h p 2 (iv (i + m)))) : Ca (d + 1) m_Pa_passFigure [.ref p] h (QI K) := by
  refine w_Pa_passFigure ?_
  have e : sI h p 2 (iv (i + 0)) = h := sI_id P.1.2.2.2
  have := fig_loop (d := d) (b := b) P.2.2.2 k 3 0 none rfl (by rw [e]; exact P) (fun j hj => absurd hj (by omega))
  rw [e] at this
  exact this
