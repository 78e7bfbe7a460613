/-! taken -/
def ofK (a : Nat) (k : Int32) : Bool := match a with
  | 0 => k == 0
  | 1 => k == 1 || k == 0
  | 2 => k == 2 || (k == 1 || k == 0)
  | 3 => k == 3 || k == 0
  | 4 => k == 4 || (k == 3 || k == 0)
  | _ => k == 5 || (k == 2 || (k == 1 || k == 0))
def isM (w k : Int32) : Bool := k == 0 || (k == w || ((k == 1 && (w == 2 || w == 5)) || ((k == 2 && w == 5) || (k == 3 && w == 4))))
theorem ofK_isM : ∀ a, a < 6 → ∀ k, k < 6 → isM (nI a) (nI k) = ofK a (nI k) := by decide
theorem ct_isOfKind {d v a : Nat} {k : Int32} {S : xS} {Q : xQ} (hK : IK S) (hk : S.1 15 v 0 = nI a) (ha : a < 6) (h1 : ofK a k = true → Q (some (.inl 1)) S) (h0 : ofK a k = false → Q (some (.inl 0)) S) : CT d 0 0 m_Venture_isOfKind [.inr (.inr (15, v)), .inl k] S Q := by
  obtain ⟨u0, u1, u2, u3, u4, u5⟩ := hK
  have stop : Q (some (.inl 0)) S → ∀ j, V d 0 0 m_Venture_isOfKind 7 [some (.inr (.inr (15, v))), some (.inl k), some (.inl (-1)), some (.inl j)] [] S Q := by
    intro hq j
    refine V_go pk_68 [7] 40 ?_
    refine And.intro (fun _ => And.intro (Or.inl rfl) hq) (fun _ => ?_)
    exact And.intro (fun _ => And.intro (Or.inl rfl) hq) (fun q => absurd rfl q)
  have step : ∀ (b : Nat) (u : Int32) (j : Nat), b < 6 → j < 6 → S.1 34 0 b = u → (k = nI b → Q (some (.inl 1)) S) → (¬ k = nI b → V d 0 0 m_Venture_isOfKind 7 [some (.inr (.inr (15, v))), some (.inl k), some (.inl u), some (.inl (nI (j + 1)))] [] S Q) → V d 0 0 m_Venture_isOfKind 7 [some (.inr (.inr (15, v))), some (.inl k), some (.inl (nI b)), some (.inl (nI j))] [] S Q := by
    intro b u j hb hj hu q1 q0
    refine V_go pk_68 [7] 40 ?_
    refine And.intro (fun g => absurd ((nI_leI (a := 6) (by decide) (by omega)).mp g) (by omega)) (fun _ => ?_)
    refine And.intro (fun g => ?_) (fun _ => ?_)
    · have := congrArg Int32.toInt (show nI b = -1 from g)
      rw [nI_toInt (by omega), show (-1 : Int32).toInt = -1 from rfl] at this
      omega
    · refine And.intro (fun g => ?_) (fun g => And.intro (Or.inr rfl) (q1 (Eq.symm g)))
      refine And.intro (vi (N := 6) hb) ?_
      show V d 0 0 m_Venture_isOfKind 7 [some (.inr (.inr (15, v))), some (.inl k), some (.inl (S.1 34 0 (nI b).toNatClampNeg)), some (.inl (nI j + 1))] [] S Q
      rw [nI_clamp (show b < 2 ^ 31 by omega), hu, nI_1]
      exact q0 (fun q => g q.symm)
  have c0 : ∀ j, j < 6 → (k = 0 → Q (some (.inl 1)) S) → (¬ k = 0 → Q (some (.inl 0)) S) → V d 0 0 m_Venture_isOfKind 7 [some (.inr (.inr (15, v))), some (.inl k), some (.inl 0), some (.inl (nI j))] [] S Q := fun j hj q1 q0 => step 0 (-1) j (by omega) hj u0 q1 (fun g => stop (q0 g) _)
  have c1 : ∀ j, j < 5 → ((k = 1 ∨ k = 0) → Q (some (.inl 1)) S) → (¬ (k = 1 ∨ k = 0) → Q (some (.inl 0)) S) → V d 0 0 m_Venture_isOfKind 7 [some (.inr (.inr (15, v))), some (.inl k), some (.inl 1), some (.inl (nI j))] [] S Q := fun j hj q1 q0 => step 1 0 j (by omega) (by omega) u1 (fun g => q1 (Or.inl g)) (fun g => c0 _ (by omega) (fun g2 => q1 (Or.inr g2)) (fun g2 => q0 (fun q => q.elim g g2)))
  have c2 : ∀ j, j < 4 → ((k = 2 ∨ k = 1 ∨ k = 0) → Q (some (.inl 1)) S) → (¬ (k = 2 ∨ k = 1 ∨ k = 0) → Q (some (.inl 0)) S) → V d 0 0 m_Venture_isOfKind 7 [some (.inr (.inr (15, v))), some (.inl k), some (.inl 2), some (.inl (nI j))] [] S Q := fun j hj q1 q0 => step 2 1 j (by omega) (by omega) u2 (fun g => q1 (Or.inl g)) (fun g => c1 _ (by omega) (fun g2 => q1 (Or.inr g2)) (fun g2 => q0 (fun q => q.elim g g2)))
  have c3 : ∀ j, j < 4 → ((k = 3 ∨ k = 0) → Q (some (.inl 1)) S) → (¬ (k = 3 ∨ k = 0) → Q (some (.inl 0)) S) → V d 0 0 m_Venture_isOfKind 7 [some (.inr (.inr (15, v))), some (.inl k), some (.inl 3), some (.inl (nI j))] [] S Q := fun j hj q1 q0 => step 3 0 j (by omega) (by omega) u3 (fun g => q1 (Or.inl g)) (fun g => c0 _ (by omega) (fun g2 => q1 (Or.inr g2)) (fun g2 => q0 (fun q => q.elim g g2)))
  have c4 : ∀ j, j < 3 → ((k = 4 ∨ k = 3 ∨ k = 0) → Q (some (.inl 1)) S) → (¬ (k = 4 ∨ k = 3 ∨ k = 0) → Q (some (.inl 0)) S) → V d 0 0 m_Venture_isOfKind 7 [some (.inr (.inr (15, v))), some (.inl k), some (.inl 4), some (.inl (nI j))] [] S Q := fun j hj q1 q0 => step 4 3 j (by omega) (by omega) u4 (fun g => q1 (Or.inl g)) (fun g => c3 _ (by omega) (fun g2 => q1 (Or.inr g2)) (fun g2 => q0 (fun q => q.elim g g2)))
  have c5 : ∀ j, j < 3 → ((k = 5 ∨ k = 2 ∨ k = 1 ∨ k = 0) → Q (some (.inl 1)) S) → (¬ (k = 5 ∨ k = 2 ∨ k = 1 ∨ k = 0) → Q (some (.inl 0)) S) → V d 0 0 m_Venture_isOfKind 7 [some (.inr (.inr (15, v))), some (.inl k), some (.inl 5), some (.inl (nI j))] [] S Q := fun j hj q1 q0 => step 5 2 j (by omega) (by omega) u5 (fun g => q1 (Or.inl g)) (fun g => c2 _ (by omega) (fun g2 => q1 (Or.inr g2)) (fun g2 => q0 (fun q => q.elim g g2)))
  have go : V d 0 0 m_Venture_isOfKind 7 [some (.inr (.inr (15, v))), some (.inl k), some (.inl (nI a)), some (.inl (nI 0))] [] S Q := by
    have : a = 0 ∨ a = 1 ∨ a = 2 ∨ a = 3 ∨ a = 4 ∨ a = 5 := by omega
    rcases this with rfl | rfl | rfl | rfl | rfl | rfl
    · exact c0 0 (by omega) (fun q => h1 (by simpa [ofK] using q)) (fun q => h0 (by simpa [ofK] using q))
    · exact c1 0 (by omega) (fun q => h1 (by simpa [ofK] using q)) (fun q => h0 (by simpa [ofK] using q))
    · exact c2 0 (by omega) (fun q => h1 (by simpa [ofK] using q)) (fun q => h0 (by simpa [ofK] using q))
    · exact c3 0 (by omega) (fun q => h1 (by simpa [ofK] using q)) (fun q => h0 (by simpa [ofK] using q))
    · exact c4 0 (by omega) (fun q => h1 (by simpa [ofK] using q)) (fun q => h0 (by simpa [ofK] using q))
    · exact c5 0 (by omega) (fun q => h1 (by simpa [ofK] using q)) (fun q => h0 (by simpa [ofK] using q))
  refine ct_of (xmok_all (by decide)) rfl (V_go (pc := 0) pk_68 [7] 20 ?_)
  show V d 0 0 m_Venture_isOfKind 7 [some (.inr (.inr (15, v))), some (.inl k), some (.inl (S.1 15 v 0)), some (.inl 0)] [] S Q
  rw [hk]
  exact go
theorem ct_M_taken {d nv : Nat} {x k : Int32} {S : xS} {Q : xQ} (e3 : S.1 36 0 19 = nI nv) (b : nv ≤ 16) (hb : ¬ inR 0 5 k → Q (some (.inl (-2))) S) (hn : inR 0 5 k → ¬ inC nv x → Q (some (.inl (-11))) S) (h1 : inR 0 5 k → inC nv x → isM (S.1 53 0 x.toNatClampNeg) k = true → Q (some (.inl (S.1 55 0 x.toNatClampNeg))) S) (h0 : inR 0 5 k → inC nv x → isM (S.1 53 0 x.toNatClampNeg) k = false → Q (some (.inl (-13))) S) : CT (d + 3) 0 0 m_M_taken [M0, .inl x, .inl k] S Q := by
  refine ct_of (xmok_all (by decide)) rfl (V_go (pc := 0) pk_185 [77, 81, 42] 30 ?_)
  refine cM_w 0 5 rfl rfl (by decide) (by decide) (fun g1 => ?_) (fun q => ?_)
  · (repeat' first | (refine And.intro (fun q => absurd q (by decide)) (fun _ => ?_)) | (refine And.intro (fun _ => ?_) (fun q => absurd q (by decide))) | fail)
    refine cM_isVenture e3 (by omega) (fun g2 => ?_) (fun q => ?_)
    · (repeat' first | (refine And.intro (fun q => absurd q (by decide)) (fun _ => ?_)) | (refine And.intro (fun _ => ?_) (fun q => absurd q (by decide))) | fail)
      have hv := g2.vp (N := 16) b
      have h1 := h1 g1 g2
      have h0 := h0 g1 g2
      refine And.intro hv ?_
      have yes : isM (S.1 53 0 x.toNatClampNeg) k = true → V (d + 3) 0 0 m_M_taken 77 [some M0, some (.inl x), some (.inl k), some (.inl (S.1 53 0 x.toNatClampNeg)), none] [] S Q := by
        intro q
        refine V_go pk_185 [] 30 ?_
        (repeat' first | (refine And.intro (fun q => absurd q (by decide)) (fun _ => ?_)) | (refine And.intro (fun _ => ?_) (fun q => absurd q (by decide))) | fail)
        exact And.intro hv (h1 q)
      have no : isM (S.1 53 0 x.toNatClampNeg) k = false → V (d + 3) 0 0 m_M_taken 81 [some M0, some (.inl x), some (.inl k), some (.inl (S.1 53 0 x.toNatClampNeg)), none] [] S Q := by
        intro q
        refine V_go pk_185 [] 30 ?_
        (repeat' first | (refine And.intro (fun q => absurd q (by decide)) (fun _ => ?_)) | (refine And.intro (fun _ => ?_) (fun q => absurd q (by decide))) | fail)
        exact h0 q
      refine And.intro (fun c0 => yes (by simp [isM, c0])) (fun c0 => ?_)
      refine And.intro (fun c1 => yes (by simp [isM, c1])) (fun c1 => ?_)
      have c0 : ¬ k = 0 := c0
      have c1 : ¬ k = S.1 53 0 x.toNatClampNeg := c1
      have last : (¬ (k = 1 ∧ (S.1 53 0 x.toNatClampNeg = 2 ∨ S.1 53 0 x.toNatClampNeg = 5))) → V (d + 3) 0 0 m_M_taken 57 [some M0, some (.inl x), some (.inl k), some (.inl (S.1 53 0 x.toNatClampNeg)), none] [] S Q := by
        intro n1
        have last2 : (¬ (k = 2 ∧ S.1 53 0 x.toNatClampNeg = 5)) → V (d + 3) 0 0 m_M_taken 67 [some M0, some (.inl x), some (.inl k), some (.inl (S.1 53 0 x.toNatClampNeg)), none] [] S Q := by
          intro n2
          refine V_go pk_185 [77, 81] 30 ?_
          refine And.intro (fun c => no ?_) (fun c => And.intro (fun c2 => no ?_) (fun c2 => yes ?_))
          · have c : ¬ k = 3 := c
            simp [isM, c0, c1, c]
            exact ⟨fun q => ⟨fun g => n1 ⟨q, Or.inl g⟩, fun g => n1 ⟨q, Or.inr g⟩⟩, fun q g => n2 ⟨q, g⟩⟩
          · have c2 : ¬ S.1 53 0 x.toNatClampNeg = 4 := c2
            simp [isM, c0, c1, c2]
            exact ⟨fun q => ⟨fun g => n1 ⟨q, Or.inl g⟩, fun g => n1 ⟨q, Or.inr g⟩⟩, fun q g => n2 ⟨q, g⟩⟩
          · have c : k = 3 := c
            have c2 : S.1 53 0 x.toNatClampNeg = 4 := c2
            simp [isM, c, c2]
        refine V_go pk_185 [77, 81, 67] 30 ?_
        refine And.intro (fun c => last2 (fun q => c q.1)) (fun c => And.intro (fun c2 => yes ?_) (fun c2 => last2 (fun q => c2 q.2)))
        have c : k = 2 := c
        have c2 : S.1 53 0 x.toNatClampNeg = 5 := c2
        simp [isM, c, c2]
      show V (d + 3) 0 0 m_M_taken 42 [some M0, some (.inl x), some (.inl k), some (.inl (S.1 53 0 x.toNatClampNeg)), none] [] S Q
      refine V_go pk_185 [77, 81, 57] 30 ?_
      refine And.intro (fun c => last (fun q => c q.1)) (fun c => ?_)
      have c : k = 1 := c
      refine And.intro (fun c2 => yes ?_) (fun c2 => And.intro (fun c3 => yes ?_) (fun c3 => last (fun q => q.2.elim c2 c3)))
      · have c2 : S.1 53 0 x.toNatClampNeg = 2 := c2
        simp [isM, c, c2]
      · have c3 : S.1 53 0 x.toNatClampNeg = 5 := c3
        simp [isM, c, c3]
    · (repeat' first | (refine And.intro (fun q => absurd q (by decide)) (fun _ => ?_)) | (refine And.intro (fun _ => ?_) (fun q => absurd q (by decide))) | fail)
      exact hn g1 q
  · (repeat' first | (refine And.intro (fun q => absurd q (by decide)) (fun _ => ?_)) | (refine And.intro (fun _ => ?_) (fun q => absurd q (by decide))) | fail)
    exact hb q
theorem cm_taken {dp np nd nv nt r t : Nat} {S : xS} (hN : IN np nd nv nt r t S) (hD : ID nd nv S) (hK : IK S) {x k : Int32} : CT (dp + 3) 0 0 m_C_taken [C0, .inl x, .inl k] S (fun a S1 => CT (dp + 3) 0 0 m_M_taken [M0, .inl x, .inl k] S1 (fun a' S2 => a' = a ∧ S2 = S)) := by
  obtain ⟨⟨b1, b2, b3, b4, b5, b6⟩, ⟨e1, e2⟩, ⟨e3, e4⟩, ⟨e7, e8⟩, e9⟩ := id hN
  refine ct_of (xmok_all (by decide)) rfl (V_go (pc := 0) pk_117 [] 60 ?_)
  refine cC_w 0 5 rfl rfl (by decide) (by decide) (fun g1 => ?_) (fun q => ?_)
  · (repeat' first | (refine And.intro (fun q => absurd q (by decide)) (fun _ => ?_)) | (refine And.intro (fun _ => ?_) (fun q => absurd q (by decide))) | fail)
    refine cC_isVenture e7 (by omega) (fun g2 => ?_) (fun q => ?_)
    · (repeat' first | (refine And.intro (fun q => absurd q (by decide)) (fun _ => ?_)) | (refine And.intro (fun _ => ?_) (fun q => absurd q (by decide))) | fail)
      have hv := g2.vp (N := 16) b3
      obtain ⟨⟨a1, -, a3, -⟩, ⟨K, hK6, eK⟩, -⟩ := (hD _ (by have := g2.lt; omega)).1 g2.lt
      have em : isM (S.1 53 0 x.toNatClampNeg) k = ofK K k := by
        obtain ⟨k', -, k2, rfl⟩ := id g1
        rw [a1, eK]
        exact ofK_isM K hK6 k' (by omega)
      refine And.intro hv ?_
      refine ct_isOfKind hK eK hK6 (fun q => ?_) (fun q => ?_)
      · (repeat' first | (refine And.intro (fun q => absurd q (by decide)) (fun _ => ?_)) | (refine And.intro (fun _ => ?_) (fun q => absurd q (by decide))) | fail)
        refine And.intro hv ?_
        exact ct_M_taken e8 b3 (fun g => absurd g1 g) (fun _ g => absurd g2 g) (fun _ _ _ => ⟨by rw [a3], rfl⟩) (fun _ _ g => by rw [em, q] at g; cases g)
      · (repeat' first | (refine And.intro (fun q => absurd q (by decide)) (fun _ => ?_)) | (refine And.intro (fun _ => ?_) (fun q => absurd q (by decide))) | fail)
        exact ct_M_taken e8 b3 (fun g => absurd g1 g) (fun _ g => absurd g2 g) (fun _ _ g => by rw [em, q] at g; cases g) (fun _ _ _ => ⟨rfl, rfl⟩)
    · (repeat' first | (refine And.intro (fun q => absurd q (by decide)) (fun _ => ?_)) | (refine And.intro (fun _ => ?_) (fun q => absurd q (by decide))) | fail)
      exact ct_M_taken e8 b3 (fun g => absurd g1 g) (fun _ _ => ⟨rfl, rfl⟩) (fun _ g => absurd g q) (fun _ g => absurd g q)
  · (repeat' first | (refine And.intro (fun q => absurd q (by decide)) (fun _ => ?_)) | (refine And.intro (fun _ => ?_) (fun q => absurd q (by decide))) | fail)
    exact ct_M_taken e8 b3 (fun _ => ⟨rfl, rfl⟩) (fun g => absurd g q) (fun g => absurd g q) (fun g => absurd g q)
