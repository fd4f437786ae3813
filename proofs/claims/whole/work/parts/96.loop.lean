/-! ===== the law: its loop ===== -/
theorem mv0 {sa : Nat → Nat} {ad ex : iA} {n : Nat} (h : ad.length = n) (hn : 0 < n) : i_mv sa (ad ++ ex) (.ref 0) = i_mv sa ad (.ref 0) := by
  have := i_mvl_ext (sa := sa) (ad := ad) (ex := ex) (l := [.ref 0]) (fun x hx => by rw [List.mem_singleton.mp hx]; exact Or.inl (by omega))
  exact (List.cons.inj this).1
