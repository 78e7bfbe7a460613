/-! the reckoner of the class: a text's part as postfix code -/
def uf (f : Nat → Int32) (k : Nat) (x : Int32) : Nat → Int32 := fun j => if j = k then x else f j
def joinP (k l r : Int32) : Int32 := if k = 131 then (if l = 0 then (if r = 0 then 0 else 1) else 1) else if k = 132 then (if l = 0 then 0 else if r = 0 then 0 else 1) else if k = 60 then (if l < r then 1 else 0) else if k = 61 then (if l = r then 1 else 0) else if k = 43 then l + r else if k = 45 then l - r else l * r
/-- one step of the code: the stack and its height -/
def stP (vals : Nat → Int32) (c : Int32) (w : (Nat → Int32) × Nat) : (Nat → Int32) × Nat :=
  if 0 ≤ c then (uf w.1 w.2 c, w.2 + 1)
  else if 134 ≤ -c ∧ -c ≤ 139 then (uf w.1 w.2 (vals (-c - 134).toNatClampNeg), w.2 + 1)
  else if -c = 133 then (uf w.1 (w.2 - 1) (if w.1 (w.2 - 1) = 0 then 1 else 0), w.2)
  else if -c = 3 then (uf w.1 (w.2 - 1) (-(w.1 (w.2 - 1))), w.2)
  else (uf w.1 (w.2 - 2) (joinP (-c) (w.1 (w.2 - 2)) (w.1 (w.2 - 1))), w.2 - 1)
/-- how high the stack must stand for a step -/
def ndP (c : Int32) : Nat := if 0 ≤ c then 0 else if 134 ≤ -c ∧ -c ≤ 139 then 0 else if -c = 133 then 1 else if -c = 3 then 1 else 2
def rpC (S : xS) (w : (Nat → Int32) × Nat) : Prop := S.1 28 0 2 = nI w.2 ∧ ∀ j, j < w.2 → S.1 30 0 j = w.1 j
theorem ct_push {d n : Nat} {x : Int32} {S : xS} {Q : xQ} (h2 : S.1 28 0 2 = nI n) (hn : n < 160) (h : Q none (xupd (xupd S 30 0 n x) 28 0 2 (nI (n + 1)))) : CT d 0 0 m_Reckoner_push [.inr (.inr (28, 0)), .inl x] S Q := by
  refine ct_of (xmok_all (by decide)) rfl (V_go (pc := 0) pk_39 [] 40 ?_)
  refine And.intro (fun q => ?_) (fun _ => ?_)
  · have q : nI 160 ≤ S.1 28 0 2 := q
    rw [h2] at q
    exact absurd ((nI_leI (by decide) (by omega)).mp q) (by omega)
  · refine And.intro (by rw [h2]; exact vi (N := 160) hn) ?_
    refine qq h rfl ?_
    show xupd (xupd S 30 0 (S.1 28 0 2).toNatClampNeg x) 28 0 2 (S.1 28 0 2 + 1) = _
    rw [h2, nI_1, nI_clamp (show n < 2 ^ 31 by omega)]
theorem ct_pop {d n : Nat} {S : xS} {Q : xQ} (h2 : S.1 28 0 2 = nI (n + 1)) (hn : n < 160) (h : Q (some (.inl (S.1 30 0 n))) (xupd S 28 0 2 (nI n))) : CT d 0 0 m_Reckoner_pop [.inr (.inr (28, 0))] S Q := by
  refine ct_of (xmok_all (by decide)) rfl (V_go (pc := 0) pk_40 [] 40 ?_)
  refine And.intro (fun _ => ?_) (fun q => absurd ?_ q)
  · have e : S.1 28 0 2 - 1 = nI n := by rw [h2, nI_pred]
    have e2 : (xupd S 28 0 2 (S.1 28 0 2 - 1)).1 28 0 2 = nI n := by simp (decide := true) only [xu, true_and, false_and, and_true, and_false, if_true, if_false, e]
    refine And.intro (by rw [e2]; exact vi (N := 160) hn) ?_
    refine qi h ?_ ?_
    · show S.1 30 0 ((xupd S 28 0 2 (S.1 28 0 2 - 1)).1 28 0 2).toNatClampNeg = _
      rw [e2, nI_clamp (show n < 2 ^ 31 by omega)]
    · show xupd S 28 0 2 (S.1 28 0 2 - 1) = _
      rw [e]
  · show 0 < S.1 28 0 2
    rw [h2]; exact nI_lt (a := 0) (by omega) (by omega)
theorem ct_join {d : Nat} {k l r : Int32} {S : xS} {Q : xQ} (h : Q (some (.inl (joinP k l r))) S) : CT d 0 0 m_Reckoner_join [.inl k, .inl l, .inl r] S Q := by
  refine ct_of (xmok_all (by decide)) rfl (V_go (pc := 0) pk_41 [] 40 ?_)
  refine (And.intro (fun c0 => ?_) (fun c0 => (And.intro (fun c1 => ?_) (fun c1 => (And.intro (fun c2 => ?_) (fun c2 => (And.intro (fun c3 => ?_) (fun c3 => (And.intro (fun c4 => ?_) (fun c4 => (And.intro (fun c5 => ?_) (fun c5 => ?_))))))))))))
  · subst c0; exact h
  · subst c1; exact h
  · subst c2
    refine And.intro (fun q => ?_) (fun q => ?_)
    · refine qi h ?_ rfl
      show (0 : Int32) = if l < r then 1 else 0
      exact (if_neg (Int32.not_lt.mpr q)).symm
    · refine qi h ?_ rfl
      show (1 : Int32) = if l < r then 1 else 0
      exact (if_pos (Int32.not_le.mp q)).symm
  · subst c3
    refine And.intro (fun q => ?_) (fun q => ?_)
    · refine qi h ?_ rfl
      show (0 : Int32) = if l = r then 1 else 0
      exact (if_neg q).symm
    · refine qi h ?_ rfl
      show (1 : Int32) = if l = r then 1 else 0
      exact (if_pos q).symm
  · subst c4
    refine And.intro (fun q => ?_) (fun q => ?_)
    · refine qi h ?_ rfl
      show (1 : Int32) = if l = 0 then (if r = 0 then 0 else 1) else 1
      exact (if_neg q).symm
    · refine And.intro (fun q2 => ?_) (fun q2 => ?_)
      · refine qi h ?_ rfl
        show (0 : Int32) = if l = 0 then (if r = 0 then 0 else 1) else 1
        rw [if_pos q, if_pos q2]
      · refine qi h ?_ rfl
        show (1 : Int32) = if l = 0 then (if r = 0 then 0 else 1) else 1
        rw [if_pos q, if_neg q2]
  · subst c5
    refine And.intro (fun q => ?_) (fun q => ?_)
    · refine qi h ?_ rfl
      show (0 : Int32) = if l = 0 then 0 else if r = 0 then 0 else 1
      exact (if_pos q).symm
    · refine And.intro (fun q2 => ?_) (fun q2 => ?_)
      · refine qi h ?_ rfl
        show (0 : Int32) = if l = 0 then 0 else if r = 0 then 0 else 1
        rw [if_neg q, if_pos q2]
      · refine qi h ?_ rfl
        show (1 : Int32) = if l = 0 then 0 else if r = 0 then 0 else 1
        rw [if_neg q, if_neg q2]
  · refine qi h ?_ rfl
    show l * r = _
    unfold joinP
    rw [if_neg c4, if_neg c5, if_neg c2, if_neg c3, if_neg c0, if_neg c1]
theorem rp_push {S : xS} {st : Nat → Int32} {n : Nat} {x : Int32} (h : ∀ j, j < n → S.1 30 0 j = st j) : rpC (xupd (xupd S 30 0 n x) 28 0 2 (nI (n + 1))) (uf st n x, n + 1) := by
  refine ⟨rfl, fun j hj => ?_⟩
  show (if 30 = 30 ∧ j = n ∧ 0 = 0 then x else S.1 30 0 j) = if j = n then x else st j
  by_cases e : j = n
  · rw [if_pos ⟨rfl, e, rfl⟩, if_pos e]
  · rw [if_neg (fun g => e g.2.1), if_neg e]
    have hj : j < n + 1 := hj
    exact h j (by omega)
theorem ct_step {d : Nat} {c : Int32} {vals : Nat → Int32} {w : (Nat → Int32) × Nat} {S : xS} {Q : xQ} (hr : rpC S w) (hn : w.2 < 160) (hd : ndP c ≤ w.2) (hv : ∀ i, i < 6 → S.1 29 0 i = vals i) (h : ∀ S', rpC S' (stP vals c w) → Fr (fl [30, 29002]) S S' → Q none S') : CT (d + 1) 0 0 m_Reckoner_step [.inr (.inr (28, 0)), .inl c] S Q := by
  obtain ⟨st, n⟩ := w
  obtain ⟨h2, hs⟩ := hr
  have h2 : S.1 28 0 2 = nI n := h2
  have hs : ∀ j, j < n → S.1 30 0 j = st j := hs
  have hn : n < 160 := hn
  unfold ndP at hd
  unfold stP at h
  refine ct_of (xmok_all (by decide)) rfl (V_go (pc := 0) pk_38 [] 40 ?_)
  refine And.intro (fun c0 => ?_) (fun c0 => ?_)
  · have c0 : ¬ 0 ≤ c := Int32.not_le.mpr c0
    rw [if_neg c0] at h hd
    refine ct_within (fun g1 g2 => ?_) (fun g => ?_)
    · rw [if_pos ⟨g1, g2⟩] at h hd
      (repeat' first | (refine And.intro (fun q => absurd q (by decide)) (fun _ => ?_)) | (refine And.intro (fun _ => ?_) (fun q => absurd q (by decide))) | fail)
      obtain ⟨k, k1, k2, k3⟩ := (inR_iff (lo := 134) (hi := 139) rfl rfl (by decide) (by decide)).mp ⟨g1, g2⟩
      have e : -c - 134 = nI (k - 134) := by rw [k3, show (134 : Int32) = nI 134 from rfl, nI_sb (by omega) (by omega)]
      refine And.intro (by rw [e]; exact vi (N := 6) (by omega)) ?_
      refine ct_push h2 hn ?_
      refine h _ ?_ ((Fr.rf.up rfl).up rfl)
      have ev : vals (-c - 134).toNatClampNeg = S.1 29 0 (-c - 134).toNatClampNeg := by rw [e, nI_clamp (by omega)]; exact (hv _ (by omega)).symm
      rw [ev]
      exact rp_push hs
    · rw [if_neg g] at h hd
      (repeat' first | (refine And.intro (fun q => absurd q (by decide)) (fun _ => ?_)) | (refine And.intro (fun _ => ?_) (fun q => absurd q (by decide))) | fail)
      refine And.intro (fun c1 => ?_) (fun c1 => ?_)
      · have c1 : ¬ -c = 133 := c1
        rw [if_neg c1] at h hd
        refine And.intro (fun c2 => ?_) (fun c2 => ?_)
        · have c2 : ¬ -c = 3 := c2
          rw [if_neg c2] at h hd
          obtain ⟨m, rfl⟩ : ∃ m, n = m + 2 := ⟨n - 2, by omega⟩
          refine ct_pop (n := m + 1) h2 (by omega) ?_
          refine ct_pop (n := m) (S := xupd S 28 0 2 (nI (m + 1))) rfl (by omega) ?_
          refine ct_join ?_
          refine ct_push (n := m) (S := xupd (xupd S 28 0 2 (nI (m + 1))) 28 0 2 (nI m)) rfl (by omega) ?_
          refine h _ ?_ ((((Fr.rf.up rfl).up rfl).up rfl).up rfl)
          have e1 : S.1 30 0 (m + 1) = st (m + 1) := hs _ (by omega)
          have e2 : S.1 30 0 m = st m := hs _ (by omega)
          have := rp_push (S := xupd (xupd S 28 0 2 (nI (m + 1))) 28 0 2 (nI m)) (st := st) (n := m) (x := joinP (-c) (st m) (st (m + 1))) (fun j hj => hs j (by omega))
          show rpC (xupd (xupd (xupd (xupd S 28 0 2 (nI (m + 1))) 28 0 2 (nI m)) 30 0 m (joinP (-c) (S.1 30 0 m) (S.1 30 0 (m + 1)))) 28 0 2 (nI (m + 1))) (uf st m (joinP (-c) (st m) (st (m + 1))), m + 1)
          rw [e1, e2]
          exact this
        · have c2 : -c = 3 := c2
          rw [if_pos c2] at h hd
          obtain ⟨m, rfl⟩ : ∃ m, n = m + 1 := ⟨n - 1, by omega⟩
          refine ct_pop (n := m) h2 (by omega) ?_
          refine ct_push (n := m) (S := xupd S 28 0 2 (nI m)) rfl (by omega) ?_
          refine h _ ?_ (((Fr.rf.up rfl).up rfl).up rfl)
          have e2 : S.1 30 0 m = st m := hs _ (by omega)
          have := rp_push (S := xupd S 28 0 2 (nI m)) (st := st) (n := m) (x := -(st m)) (fun j hj => hs j (by omega))
          show rpC (xupd (xupd (xupd S 28 0 2 (nI m)) 30 0 m (-(S.1 30 0 m))) 28 0 2 (nI (m + 1))) (uf st m (-(st m)), m + 1)
          rw [e2]
          exact this
      · have c1 : -c = 133 := c1
        rw [if_pos c1] at h hd
        obtain ⟨m, rfl⟩ : ∃ m, n = m + 1 := ⟨n - 1, by omega⟩
        have e2 : S.1 30 0 m = st m := hs _ (by omega)
        refine ct_pop (n := m) h2 (by omega) ?_
        have go : ∀ b : Int32, b = (if st m = 0 then 1 else 0) → rpC (xupd (xupd (xupd S 28 0 2 (nI m)) 30 0 m b) 28 0 2 (nI (m + 1))) (uf st m (if st m = 0 then 1 else 0), m + 1) := fun b hb => by
          rw [← hb]
          exact rp_push (S := xupd S 28 0 2 (nI m)) (st := st) (n := m) (x := b) (fun j hj => hs j (by omega))
        refine And.intro (fun q => ?_) (fun q => ?_)
        · have q : ¬ S.1 30 0 m = 0 := q
          rw [e2] at q
          refine ct_push (n := m) (S := xupd S 28 0 2 (nI m)) rfl (by omega) ?_
          exact h _ (go 0 (if_neg q).symm) (((Fr.rf.up rfl).up rfl).up rfl)
        · have q : S.1 30 0 m = 0 := q
          rw [e2] at q
          refine ct_push (n := m) (S := xupd S 28 0 2 (nI m)) rfl (by omega) ?_
          exact h _ (go 1 (if_pos q).symm) (((Fr.rf.up rfl).up rfl).up rfl)
  · have c0 : 0 ≤ c := Int32.not_lt.mp c0
    rw [if_pos c0] at h
    refine ct_push h2 hn ?_
    exact h _ (rp_push hs) ((Fr.rf.up rfl).up rfl)
