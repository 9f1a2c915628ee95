/-! Functions that leave all references as they are. -/
def rf (h0 h : eH) : Prop := ∀ i k, gR h i k = gR h0 i k
section
variable {h0 h : eH} {b k : Nat}
theorem rf_sI {v : Int32} (f : rf h0 h) : rf h0 (sI h b k v) := f
theorem rf_sL {v : Int64} (f : rf h0 h) : rf h0 (sL h b k v) := f
theorem rf_cpI {a : Nat} {sp dp n : Int32} (f : rf h0 h) : rf h0 (cpI h a b sp dp n) := f
theorem rf_cpL {a : Nat} {sp dp n : Int32} (f : rf h0 h) : rf h0 (cpL h a b sp dp n) := f
theorem rf_oW {x : Int32} {r : eH × Int32} (hf : some (h, x) = some r) (f : rf h0 h) : rf h0 r.1 := by cases hf; exact f
theorem rf_oL {x : Int64} {r : eH × Int64} (hf : some (h, x) = some r) (f : rf h0 h) : rf h0 r.1 := by cases hf; exact f
theorem rf_oV {r : eH} (hf : some h = some r) (f : rf h0 h) : rf h0 r := by cases hf; exact f
end
