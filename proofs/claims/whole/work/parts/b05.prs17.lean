set_option maxRecDepth 20000
set_option maxHeartbeats 4000000
set_option linter.all false
/-! the reference reads the law's line, and line by line -/
def rbD : SX := (sSeq (sCallV 12 (mX12_whole (mX12_takePart 7)) (aR (rLoc 0) (aI (iK 0) aNil))) (sCallV 12 mX12_emit (aR (rLoc 0) (aI (iK 0) (aI (iK 0) aNil)))))
def rbC : SX := (sSeq (sUpd 12 7 gT2 (· + ·) (rLoc 0) (iK 1)) (sSeq (sASt 0 narI (rGet 12 10 (rLoc 0)) (iK 42) (iGet 12 12 (rLoc 0))) rbD))
def rbB : SX := (sSeq (sIf (cZ zgt (iGet 12 8 (rLoc 0))) sRetV sSkip) rbC)
theorem rb_eq : mX12_readBars = bodyOf 1 (sSeq (sSeq (sIf (cNot (cZ zne (iCallV 12 mX12_isWord (aR (rLoc 0) (aI (iK 4) aNil))))) (sCallV 12 mX12_wrong (aR (rLoc 0) (aI (iK 1) aNil))) (sIf (cZ zge (iALd (rGet 12 10 (rLoc 0)) (iK 42))) (sCallV 12 mX12_wrong (aR (rLoc 0) (aI (iK 3) aNil))) sSkip)) rbB) sRetV) := rfl
