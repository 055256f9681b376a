/-! The draft's code is one that can be, item by item. -/
section
variable {t : Int → Int} {g : G} {c k l v w e p b : Int} {q : SG}
theorem readB_vn (h : WG g) (hv : VN g c) (hn : g.nB < 2) : VN (readB t g c q).1.1 (readB t g c q).1.2 := by
  have hla := h.last7
  unfold readB
  split
  · split
    · rename_i z
      exact VN_addB hv h hn (nV_b (by omega)) (nV_b (by omega)) z
    · exact hv
  · exact hv
theorem readI_vn {first : Bool} (h : WG g) (hv : VN g c) : VN (readI t g c first k).1.1 (readI t g c first k).1.2 := by
  have hla := h.last7
  unfold readI
  split
  · split
    · exact VN_rst (nV_b (by omega))
    · split
      · exact VN_isl hv
      · split
        · rename_i z
          exact VN_addW hv h z.2 (nV_b (by omega))
        · split
          · rename_i z
            exact readB_vn h hv z.2
          · exact hv
  · exact hv
theorem rdL_ok : ∀ (f : Nat) (n : Int) (g : G) (c k : Int), WG g → VN g c → 0 ≤ k ∧ k ≤ t (-1) → WG (rdL t f n g c k).1.1 ∧ VN (rdL t f n g c k).1.1 (rdL t f n g c k).1.2 := by
  intro f
  induction f with
  | zero => intro n g c k h hv hk; exact ⟨h, hv⟩
  | succ f ih =>
    intro n g c k h hv hk
    rw [rdL]
    have h1 := readI_ok (first := decide (n = 0)) (t := t) ⟨h, hv.1.1⟩ hk
    have h2 := readI_vn (first := decide (n = 0)) (t := t) (k := k) h hv
    split
    · exact ⟨h, hv⟩
    · split
      · exact ih _ _ _ _ h1.1.1 h2 (sS_b h1.2).1
      · exact ⟨h1.1.1, h2⟩
end
