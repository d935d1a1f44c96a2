section MNL
variable {L : Launch} {G : mmG} {M : mmM} {MC MS : Nat} {PR : Option Value → mmH → Prop} {PX : String → mmH → Prop} {θ : mmT} {f j : Nat} {l l' : List (Nat × AV)} {st : List AV} {h : mmH} {cs sl : Nat}
/-- the locals, written out -/
theorem mi_nl (l' : List (Nat × AV)) (e : l = l') (k : mi_run L G M MC MS PR PX θ f j l' st h cs sl) : mi_run L G M MC MS PR PX θ f j l st h cs sl := e ▸ k
end MNL
