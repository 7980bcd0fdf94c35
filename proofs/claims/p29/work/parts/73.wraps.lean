section WRAPS
theorem Fx.post {y : MethodName} {cc : ByteArray} {nL : Nat} {ret : Option FieldType} {d : Nat} {av : List Value} {n : Nat} {M : AH} {mc ms : Nat} {post post' : Option Value → Nat → AH → Prop} {xpost xpost' : String → Nat → AH → Prop} (h : Fx y cc nL ret d av n M mc ms post xpost) (hp : ∀ r n' M', post r n' M' → post' r n' M') (hx : ∀ E n' M', xpost E n' M' → xpost' E n' M') : Fx y cc nL ret d av n M mc ms post' xpost' := by
  intro l hl E lo p e h1 h2 h3 s m args below hf hS hP hK
  obtain ⟨i, o, a1, a2, a3, a4⟩ := h l hl E lo p e h1 h2 h3 s m args below hf hS hP hK
  refine ⟨i, o, a1, a2, a3, ?_⟩
  rcases a4 with ⟨⟨r, n', M', b1, b2, b3⟩, b4⟩ | ⟨q, b1, E9, ce, L, ⟨n', M', c1, c2⟩, c3⟩
  · exact Or.inl ⟨⟨r, n', M', b1, hp _ _ _ b2, b3⟩, b4⟩
  · exact Or.inr ⟨q, b1, E9, ce, L, ⟨n', M', hx _ _ _ c1, c2⟩, c3⟩
end WRAPS
