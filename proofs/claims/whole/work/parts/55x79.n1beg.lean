theorem iv_ne {a b : Nat} (ha : a < 2 ^ 31) (hb : b < 2 ^ 31) (h : ¬ a = b) : ¬ iv a = iv b := fun q => h ((iv_inj ha hb).mp q)
section BEG2
variable {d : Nat} {K : Int32 → Hp → Prop}
theorem c_begin_76 {g : Hp} {S : Tb} {st : List Fm} {c x2 x3 : Int32} {y : Option Value} (C : CfM g (S, st)) (W : WfP S) (R : Rdy S st) (B : Bel S st) (h90 : S.1 < 90) (hx : x2 = if sm c = true then 1 else 0) (hx3 : x3 = if dp c = true then 1 else 0) (hc : (sm c || dp c || sz c || decide (c = 123)) = true)
    (k0 : bgn (S, st) c = none → ∀ g', MFr g g' → K 0 g') (k1 : ∀ X', bgn (S, st) c = some X' → ∀ g', CfM g' X' → MFr g g' → K 1 g') : Wp (d + 1) m_Mo_beginType 76 [some (.ref 197), some (.int c), some (.int x2), some (.int x3), y] [] g (QI K) := by
  have h28 : hI g 197 28 = iv st.length := C.2.2.1
  have h5 : st.length ≤ 5 := C.2.2.2.1
  have go : ¬ st.length = 5 → ¬ (dp c = true ∧ st.length = 4) → ∀ y', Wp (d + 1) m_Mo_beginType 98 [some (.ref 197), some (.int c), some (.int x2), y', y] [] g (QI K) := by
    intro a b y'
    refine c_begin_98 C W R B h90 (by omega) hx fun g' C' F => k1 _ ?_ g' C' F
    unfold bgn
    rw [if_neg]
    rintro (q | q | q)
    · rw [hc] at q; cases q
    · exact a q
    · exact b q
  have no : st.length = 5 ∨ (dp c = true ∧ st.length = 4) → bgn (S, st) c = none := fun q => by unfold bgn; exact if_pos (Or.inr q)
  refine w_Mo_beginType_76 ⟨C.1.1.o, ?_⟩
  rw [h28]
  by_cases a : st.length = 5
  · rw [if_pos (by rw [a]; rfl)]
    exact k0 (no (Or.inl a)) g (MFr.refl g)
  · rw [if_neg (show ¬ iv st.length = 5 from iv_ne (b := 5) (by omega) (by decide) a)]
    by_cases b : dp c = true
    · rw [if_pos b] at hx3
      rw [if_neg (by rw [hx3]; decide)]
      by_cases e : st.length = 4
      · rw [if_pos (by rw [e]; rfl)]
        exact k0 (no (Or.inr ⟨b, e⟩)) g (MFr.refl g)
      · rw [if_neg (show ¬ iv st.length = 4 from iv_ne (b := 4) (by omega) (by decide) e)]
        exact go a (fun q => e q.2) _
    · rw [if_neg b] at hx3
      rw [if_pos hx3]
      exact go a (fun q => b q.1) _
theorem c_sized {g : Hp} {c : Int32} (k : K (if sz c = true then 1 else 0) g) : Ca d m_Mo_sized [.ref 197, .int c] g (QI K) := by
  refine w_Mo_sized ?_
  unfold sz at k
  by_cases a1 : c = 117
  · rw [if_pos a1]; rw [a1] at k; exact k
  rw [if_neg a1]
  by_cases a2 : c = 118
  · rw [if_pos a2]; rw [a2] at k; exact k
  rw [if_neg a2]
  by_cases a3 : c = 115
  · rw [if_pos a3]; rw [a3] at k; exact k
  rw [if_neg a3]
  by_cases a4 : c = 112
  · rw [if_pos a4]; rw [a4] at k; exact k
  rw [if_neg a4]
  rw [decide_eq_false a1, decide_eq_false a2, decide_eq_false a3, decide_eq_false a4] at k
  exact k
theorem c_begin {g : Hp} {S : Tb} {st : List Fm} {c : Int32} (C : CfM g (S, st)) (W : WfP S) (R : Rdy S st) (B : Bel S st) (h90 : S.1 < 90)
    (k0 : bgn (S, st) c = none → ∀ g', MFr g g' → K 0 g') (k1 : ∀ X', bgn (S, st) c = some X' → ∀ g', CfM g' X' → MFr g g' → K 1 g') : Ca (d + 1) m_Mo_beginType [.ref 197, .int c] g (QI K) := by
  have M := C.1.1
  refine w_Mo_beginType ?_
  by_cases a1 : c = 102
  · subst a1
    rw [if_pos rfl]
    refine w_Mo_beginType_24 ?_
    rw [if_neg (by decide), if_neg (by decide), if_neg (by decide), if_neg (by decide)]
    exact c_begin_76 C W R B h90 rfl rfl rfl k0 k1
  rw [if_neg a1]
  by_cases a2 : c = 100
  · subst a2
    rw [if_pos rfl]
    refine w_Mo_beginType_24 ?_
    rw [if_neg (by decide), if_neg (by decide), if_neg (by decide), if_neg (by decide)]
    exact c_begin_76 C W R B h90 rfl rfl rfl k0 k1
  rw [if_neg a2]
  by_cases a3 : c = 122
  · subst a3
    rw [if_pos rfl]
    refine w_Mo_beginType_24 ?_
    rw [if_neg (by decide), if_neg (by decide), if_neg (by decide), if_neg (by decide)]
    exact c_begin_76 C W R B h90 rfl rfl rfl k0 k1
  rw [if_neg a3]
  by_cases a4 : c = 114
  · subst a4
    rw [if_pos rfl]
    refine w_Mo_beginType_24 ?_
    rw [if_neg (by decide), if_neg (by decide), if_neg (by decide), if_neg (by decide)]
    exact c_begin_76 C W R B h90 rfl rfl rfl k0 k1
  rw [if_neg a4]
  by_cases a5 : c = 42
  · subst a5
    rw [if_pos rfl]
    refine w_Mo_beginType_48 ?_
    rw [if_pos rfl, if_neg (by decide)]
    exact c_begin_76 C W R B h90 rfl rfl rfl k0 k1
  rw [if_neg a5]
  by_cases a6 : c = 47
  · subst a6
    rw [if_pos rfl]
    refine w_Mo_beginType_48 ?_
    rw [if_pos rfl, if_neg (by decide)]
    exact c_begin_76 C W R B h90 rfl rfl rfl k0 k1
  rw [if_neg a6]
  by_cases a7 : c = 63
  · subst a7
    rw [if_pos rfl]
    refine w_Mo_beginType_48 ?_
    rw [if_pos rfl, if_neg (by decide)]
    exact c_begin_76 C W R B h90 rfl rfl rfl k0 k1
  rw [if_neg a7, if_pos rfl, if_pos rfl]
  have e1 : sm c = false := by unfold sm; rw [decide_eq_false a1, decide_eq_false a2, decide_eq_false a3, decide_eq_false a4]; rfl
  have e2 : dp c = false := by unfold dp; rw [decide_eq_false a5, decide_eq_false a6, decide_eq_false a7]; rfl
  refine ⟨M.o, c_sized ?_⟩
  by_cases a8 : sz c = true
  · rw [if_pos a8, if_neg (by decide)]
    exact c_begin_76 C W R B h90 (by rw [e1]; rfl) (by rw [e2]; rfl) (by rw [a8]; simp) k0 k1
  · rw [if_neg a8, if_pos rfl]
    by_cases a9 : c = 123
    · subst a9
      rw [if_pos rfl]
      exact c_begin_76 C W R B h90 rfl rfl rfl k0 k1
    · rw [if_neg a9]
      refine k0 ?_ g (MFr.refl g)
      unfold bgn
      rw [e1, e2, Bool.eq_false_iff.mpr a8, decide_eq_false a9]
      exact if_pos (Or.inl rfl)
end BEG2
