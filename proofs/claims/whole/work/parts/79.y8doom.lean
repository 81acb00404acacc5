/-! the Model after wrong spare bits -/
section DOOM
variable {ω : Type} {d dm : Nat} {S : Tb} {U : Nat → Nat → ω → Int32 × Nat × ω × Int64} {sp : Nat → ω → Int32 × Nat} {Rx Ry Dm : Ps ω → Hp → Prop} {Fl : Int32 → Int32 → Int32 → Hp → Prop} {y1 : Option Value} {KK : Hp → Prop}
theorem mch39 {g : Hp} {v : Int32} : Mch g (sI g 197 39 v) := Mch.sI (Or.inr (Or.inr (Or.inr ⟨rfl, rfl⟩)))
theorem frs39 {g : Hp} {v : Int32} {t : Nat} : FrS t g (sI g 197 39 v) := fun i _ => ⟨hI_o (by omega), hI_o (by omega), rfl, hI_o (by omega)⟩
theorem frs224 {g : Hp} {v : Int32} {t : Nat} : FrS t g (sI g 224 t v) := fun i hi => ⟨hI_o (by omega), hI_o (by omega), rfl, hI_o (by omega)⟩
theorem frs225 {g : Hp} {v : Int64} {t : Nat} : FrS t g (sL g 225 t v) := fun i hi => ⟨rfl, rfl, hL_o (by omega), rfl⟩
theorem jv_dec {m : Nat} : jv (m + 1) - 1 = jv m := by
  rw [show jv (m + 1) = jv m + 1 from (jv_add m 1).symm, Int64.add_sub_cancel]
theorem jv_nn {m : Nat} (h : m < 2 ^ 63) : ¬ jv m < 0 := by
  rw [Int64.lt_iff_toInt_lt, jv_toInt h, show (0 : Int64).toInt = 0 from rfl]; omega
theorem meant_ok (T : TW S) (N : Snd_ S) {n : Nat} (hn : n < S.1) (p : dp (tG S n 0) = true) : ∃ m, mnt S n = m + 1 ∧ m < S.1 := by
  cases em : mnt S n with
  | zero => exact absurd em ((N.1 n hn).2.2 p).1
  | succ m =>
    have := (mnt_sz T.1 hn (by rw [em]; exact Nat.succ_ne_zero m)).1
    exact ⟨m, rfl, by rw [em] at this; omega⟩
theorem not_on {g : Hp} (T : TabM g S) {x : Nat} (hx : x < S.1) (h : ¬ tG S x 0 = 112) : ¬ onM g x := fun q => h (by rw [← T.kd (by have := T.2.2.1; omega)]; exact q.1)
theorem Av.kid (T : TW S) {n c : Nat} {s : Ps ω} (hc : c ∈ kids S n) (h : ¬ tG S n 0 = 123) (A : Av S n s) : Av S c s := fun q hq hz => by
  rcases (bf_kid T.1 hc).mp hq with ⟨z, -⟩ | z
  · exact absurd z h
  · exact A q z hz
theorem d_ctd (T : TW S) (N : Snd_ S) (H : MH S U sp Rx Ry Dm Fl) {f D n c : Nat} {r : List Nat} (hD : D + f = 4) (hn : n < S.1) (h42 : tG S n 0 = 42) (hk : kids S n = c :: r) (hc : chn S.2.2 (D + 1) n) (R : RecD dm S Dm Fl y1 KK f) {s : Ps ω} (A : Av S n s) (kE : ∀ g', Fl 3 s.2.2.2.1 s.2.2.2.2 g' → LPm dm y1 KK g') {g0 : Hp} {x p : Int32} (hx : x = iv c) : ∀ (m : Nat) (g : Hp), m < 2 ^ 63 → ((m = 0 ∨ (me S c).1 = 0) → ∀ g', Dm s g' → FrS D g0 g' → hI g' 197 39 = iv D → LPm dm y1 KK g') → Dm s g → FrS D g0 g → hI g 197 39 = iv (D + 1) → Frm g D n x (jv m) p → LPm dm y1 KK g := by
  have ck : c ∈ kids S n := by rw [hk]; simp
  have c1 := (kids_mem.mp ck).1
  have u90 := T.2.1.2
  have n123 : ¬ tG S n 0 = 123 := by rw [h42]; decide
  have nb := nbits N ck n123
  intro m
  induction m with
  | zero =>
    intro g hm kS dmg fr ht F
    obtain ⟨T1, A1, f0, b4, b5⟩ := H.1.2.2 s g dmg
    refine lp_step T1.1.o f0 ht (by omega) ?_
    refine m_on T1 hn (by omega) ht F (fun z => ?_) (fun z => ?_) (fun _ _ => ?_) (fun _ q => ?_) (fun z => ?_) (fun z => ?_) (fun z => ?_) (fun z => ?_) (fun z => ?_) (Or.inr (by rw [h42]; rfl)) (Or.inr ⟨c, c1, hx⟩) f0
    · exact absurd z n123
    · exact absurd z n123
    · exact kS (Or.inl rfl) _ (H.2.1.2.2 _ _ _ (Mch.sL.trans mch39) dmg) ((fr.trans frs225).trans frs39) hI_s
    · exact absurd (show jv 0 - 1 < 0 by decide) q
    all_goals (rw [h42] at z; exact absurd z (by decide))
  | succ m ih =>
    intro g hm kS dmg fr ht F
    obtain ⟨T1, A1, f0, b4, b5⟩ := H.1.2.2 s g dmg
    refine lp_step T1.1.o f0 ht (by omega) ?_
    refine m_on T1 hn (by omega) ht F (fun z => ?_) (fun z => ?_) (fun _ q => ?_) (fun _ q => ?_) (fun z => ?_) (fun z => ?_) (fun z => ?_) (fun z => ?_) (fun z => ?_) (Or.inr (by rw [h42]; rfl)) (Or.inr ⟨c, c1, hx⟩) f0
    · exact absurd z n123
    · exact absurd z n123
    · rw [jv_dec] at q; exact absurd q (jv_nn (by omega))
    · rw [jv_dec, hk]
      have mc : Mch g (sL g 225 D (jv m)) := Mch.sL
      refine R (D + 1) c s _ (dm + 0) (by omega) c1 (chn_kid ck hc) (Av.kid T ck n123 A) (not_on (mc.tab T1) c1 nb) ht (H.2.1.2.2 _ _ _ mc dmg) kE fun m0 _ g' dm' fr' ht' => ?_
      exact ih g' (by omega) (fun _ => kS (Or.inr m0)) dm' ((fr.trans frs225).trans (fr'.le (by omega))) ht' (fr'.frm (by omega) ⟨F.1, F.2.1, hL_s, F.2.2.2⟩)
    all_goals (rw [h42] at z; exact absurd z (by decide))
theorem d_pass (T : TW S) (N : Snd_ S) (LA : LvA S) (H : MH S U sp Rx Ry Dm Fl) : ∀ f, RecD dm S Dm Fl y1 KK f
  | 0 => fun D n s g j hD hn hc _ _ _ _ _ _ => by
    have := chn_le 5 (D + 1) n (LA n hn) hc; omega
  | f + 1 => fun D n s g j hD hn hc A no ht dmg kE kS => by
    have R := d_pass T N LA H f
    have u90 := T.2.1.2
    obtain ⟨T1, A1, f0, b4, b5⟩ := H.1.2.2 s g dmg
    obtain ⟨gk, -, -⟩ := (T.2.2.1 n hn).1
    have fl3 : Fl 3 s.2.2.2.1 s.2.2.2.2 (sI g 197 41 3) := H.2.2.2.1.2.2 s g (Or.inr dmg)
    have flp : ∀ x v, Fl 3 s.2.2.2.1 s.2.2.2.2 (pshG (sI g 197 41 3) D n x v) := fun x v => H.2.2.2.2.2.1 _ _ _ _ _ psh_mch fl3
    have val : ∀ m, mnt S n = m + 1 → ∃ v, hL g 222 m = v ∧ ¬ v < loT S m ∧ ¬ hiT S m < v := fun m em => by
      obtain ⟨bm, zm⟩ := mnt_bf T.1 hn em
      obtain ⟨v, ev, v1, v2⟩ := A m bm zm
      exact ⟨v, (b5 m v ev).2, v1, v2⟩
    have ndu : (tG S n 0 = 123 ∨ dp (tG S n 0) = true) → ¬ (sz (tG S n 0) = true ∨ sm (tG S n 0) = true) := fun q z => by
      rcases q with q | q
      · rw [q] at z; revert z; decide
      · unfold sz sm at z; unfold dp at q
        simp only [Bool.or_eq_true, decide_eq_true_iff] at z q
        rcases q with (q | q) | q <;> rw [q] at z <;> revert z <;> decide
    refine m_ent T1 A1 hn (by omega) ht f0 (fun c => ?_) (fun m p em c63 neg => ?_) (fun m p em c63 neg => ?_) (fun m c63 em ef => ?_) (fun m k c63 em ef => ?_) (fun p => meant_ok T N hn p) (fun c1 c2 => ?_)
    · exact d_flds T H (by omega) hn c hc R A kE (kids S n) [] _ rfl (fun _ _ _ q => PB_nil q.2) (H.2.1.2.2 _ _ _ psh_mch dmg) (fun m hm => by cases hm) psh_dep psh_frm
    · exact kE _ (flp _ _)
    · obtain ⟨v, ev, v1, v2⟩ := val m em
      rw [ev] at neg ⊢
      have lo2 : posN (loT S m) ≤ posN v := pos_mono v1
      have n123 : ¬ tG S n 0 = 123 := fun z => by rw [z] at p; cases p
      obtain ⟨c, rr, hk⟩ := kids_one T hn p
      have ck : c ∈ kids S n := by rw [hk]; simp
      have c1 := (kids_mem.mp ck).1
      have nb := nbits N ck n123
      have dmp : Dm s (pshG g D n (hdI (kids S n)) v) := H.2.1.2.2 _ _ _ psh_mch dmg
      have ej := jv_of neg
      have vlt := v.toInt_lt
      by_cases c42 : tG S n 0 = 42
      · refine d_ctd T N H (by omega) hn c42 hk hc R A kE (g0 := g) (x := hdI (kids S n)) (p := hI g 197 42) (by rw [hk]; rfl) v.toInt.toNat _ (by omega) (fun z g' dm' fr' ht' => ?_) dmp psh_frs psh_dep (by rw [← ej]; exact psh_frm)
        refine kS ?_ (ndu (Or.inr p)) g' dm' fr' ht'
        rw [me_eq T.1 hn]
        unfold locN
        rw [if_neg n123, if_pos c42, hk, em, Nat.succ_sub_one]
        show posN (loT S m) * (me S c).1 = 0
        rcases z with z | z
        · rw [show posN (loT S m) = 0 by unfold posN at lo2 ⊢; omega, Nat.zero_mul]
        · rw [z, Nat.mul_zero]
      · have c47 : tG S n 0 = 47 := by
          unfold dp at p
          simp only [Bool.or_eq_true, decide_eq_true_eq] at p
          rcases p with (p | p) | p
          · exact absurd p c42
          · exact p
          · exact absurd p c63
        obtain ⟨T2, A2, f2, b42, b52⟩ := H.1.2.2 s _ dmp
        refine lp_step T2.1.o f2 psh_dep (by omega) ?_
        have e42 : hI (pshG g D n (hdI (kids S n)) v) 197 42 = hI g 197 42 := psh_mch.2.2.1 42 (by decide)
        have e0 : (hI (pshG g D n (hdI (kids S n)) v) 197 42 - hI g 197 42).toInt64 = 0 := by rw [e42, Int32.sub_self]; rfl
        refine m_on T2 hn (by omega) psh_dep psh_frm (fun z => ?_) (fun z => ?_) (fun z => ?_) (fun z => ?_) (fun _ q => ?_) (fun _ q1 q2 => ?_) (fun _ q1 q2 => ?_) (fun z => ?_) (fun z => ?_) (Or.inr p) (Or.inr ⟨c, c1, by rw [hk]; rfl⟩) f2
        · exact absurd z n123
        · exact absurd z n123
        · exact absurd z c42
        · exact absurd z c42
        · rw [hk]
          refine R (D + 1) c s _ (dm + 0) (by omega) c1 (chn_kid ck hc) (Av.kid T ck n123 A) (not_on (by rw [← hk]; exact T2) c1 nb) (by rw [← hk]; exact psh_dep) (by rw [← hk]; exact dmp) kE fun m0 => ?_
          have := (N.2 n hn).2.2 c47 c rr hk
          omega
        · rw [e0] at q2; exact absurd q2 neg
        · refine kS ?_ (ndu (Or.inr p)) _ (H.2.1.2.2 _ _ _ mch39 dmp) (psh_frs.trans frs39) hI_s
          rw [me_eq T.1 hn]
          unfold locN
          rw [if_neg n123, if_neg c42, if_pos c47, em, Nat.succ_sub_one]
          show posN (loT S m) = 0
          rw [e0, Int64.lt_iff_toInt_lt, show (0 : Int64).toInt = 0 from rfl] at q1
          unfold posN at lo2 ⊢; omega
        · exact absurd z c63
        · exact absurd z c63
    · exact kE _ (flp _ _)
    · have p : dp (tG S n 0) = true := by rw [c63]; rfl
      have n123 : ¬ tG S n 0 = 123 := by rw [c63]; decide
      have kk := fC_mem ef
      have k1 := (kids_mem.mp kk).1
      have nb := nbits N kk n123
      have dmp : Dm s (pshG g D n (iv k) (hL g 222 m)) := H.2.1.2.2 _ _ _ psh_mch dmg
      obtain ⟨T2, A2, f2, b42, b52⟩ := H.1.2.2 s _ dmp
      refine lp_step T2.1.o f2 psh_dep (by omega) ?_
      refine m_on T2 hn (by omega) psh_dep psh_frm (fun z => ?_) (fun z => ?_) (fun z => ?_) (fun z => ?_) (fun z => ?_) (fun z => ?_) (fun z => ?_) (fun _ q => ?_) (fun _ k' hk' e' => ?_) (Or.inr p) (Or.inr ⟨k, k1, rfl⟩) f2
      · exact absurd z n123
      · exact absurd z n123
      · rw [c63] at z; exact absurd z (by decide)
      · rw [c63] at z; exact absurd z (by decide)
      · rw [c63] at z; exact absurd z (by decide)
      · rw [c63] at z; exact absurd z (by decide)
      · rw [c63] at z; exact absurd z (by decide)
      · exact absurd q (iv_neg (by omega))
      · have e'' : k' = k := ((iv_inj (by omega) (by omega)).mp e').symm
        subst e''
        have mc : Mch (pshG g D n (iv k') (hL g 222 m)) (sI (pshG g D n (iv k') (hL g 222 m)) 224 D (-1)) := Mch.sI (Or.inr (Or.inl rfl))
        refine R (D + 1) k' s _ (dm + 0) (by omega) k1 (chn_kid kk hc) (Av.kid T kk n123 A) (not_on (mc.tab T2) k1 nb) (by rw [hI_o (by omega)]; exact psh_dep) (H.2.1.2.2 _ _ _ mc dmp) kE fun m0 _ g' dm' fr' ht' => ?_
        obtain ⟨T3, A3, f3, b43, b53⟩ := H.1.2.2 s g' dm'
        have F' : Frm g' D n (-1) (hL g 222 m) (hI g 197 42) := fr'.frm (by omega) ⟨by rw [hI_o (by omega)]; exact psh_frm.1, hI_s, psh_frm.2.2.1, by rw [hI_o (by omega)]; exact psh_frm.2.2.2⟩
        refine lp_step T3.1.o f3 ht' (by omega) ?_
        refine m_on T3 hn (by omega) ht' F' (fun z => ?_) (fun z => ?_) (fun z => ?_) (fun z => ?_) (fun z => ?_) (fun z => ?_) (fun z => ?_) (fun _ q => ?_) (fun _ k' hk' e' => ?_) (Or.inr p) (Or.inl (by decide)) f3
        · exact absurd z n123
        · exact absurd z n123
        · rw [c63] at z; exact absurd z (by decide)
        · rw [c63] at z; exact absurd z (by decide)
        · rw [c63] at z; exact absurd z (by decide)
        · rw [c63] at z; exact absurd z (by decide)
        · rw [c63] at z; exact absurd z (by decide)
        · refine kS ?_ (ndu (Or.inr p)) _ (H.2.1.2.2 _ _ _ mch39 dm') (((psh_frs.trans frs224).trans (fr'.le (by omega))).trans frs39) hI_s
          rw [me_eq T.1 hn]
          unfold locN
          rw [if_neg n123, if_neg (by rw [c63]; decide), if_neg (by rw [c63]; decide), if_pos c63]
          have := (chC_min (g := me S) (kids S n) (1000, 0)).2 k' kk
          omega
        · exfalso
          have l : (-1 : Int32) < 0 := by decide
          rw [e'] at l
          exact iv_neg (by omega) l
    · show Ca (j + 13) m_Mo_unit [.ref 197, .int (iv n)] g (QV (LPm dm y1 KK))
      refine m_unit T1 hn (fun z => ?_) (fun q => absurd q no) fun _ => ?_
      · obtain ⟨q, q1, q2⟩ := (N.1 n hn).1.1 z
        exact ⟨q, by have := T.1 n hn; omega, kids_mem.mpr ⟨hn, q1⟩⟩
      · refine H.2.2.2.1.2.1 (j + 11) s g _ dmg fun g' fl hd y => ?_
        obtain ⟨e1, e2, e3, e4⟩ := H.2.2.2.2.2.2 _ _ _ _ fl
        refine w_Mo_unit_52 ⟨e1, ?_⟩
        rw [e2, if_pos e3]
        exact kE g' fl
end DOOM
