import java.math.BigInteger;

/** The edges of SLIPS, CORNERS and of what is TENDER: the terms behind "==== 3.", promises 22 to 24. */
final class EdgesOfSlips extends Checks {
  private static final String T = "Terms";

  static void run() {
    slips();
    corners();
    worstOfAll();
    tenderOfAll();
    worst();
    corner();
    tender();
  }

  /** At a corner all is as in that other stack, whose tangents can be told in a text. */
  private static void dueCorner(String text, int mark, int s, int bits, String as) {
    ThinCoats x = of(text);
    ThinCoats y = of(as);
    due("corner " + bits + " of " + text + ", above", x.corner(mark, s, bits, 0), y.light(NONE, mark, 0));
    due("corner " + bits + " of " + text + ", below", x.corner(mark, s, bits, 1), y.light(NONE, mark, 1));
  }

  private static void slips() {
    sentence(T, "SLIPS by s (2 .. 12)", () -> {
      ThinCoats x = of("C1/2");
      for (int s = 2; s <= 12; s++) {
        due("worst by " + s, x.worst(1, s, 2) > 0, true);
        due("corner by " + s, x.corner(1, s, 0, 1) > 0, true);
        due("tender by " + s, x.tender(1, s), 0);
      }
      dueOutside("worst by", 2, 12, s -> x.worst(1, s, 0), -2);
      dueOutside("corner by", 2, 12, s -> x.corner(1, s, 0, 0), -2);
      dueOutside("tender by", 2, 12, s -> x.tender(1, s), -2);
    });
    sentence(T, "the TANGENT p by q of a LAYER becomes (p s - q) by q s", () -> {
      dueCorner("C", 1, 2, 0, "C1/2");
      dueCorner("C", 2, 6, 0, "C5/6");
      dueCorner("C2/1", 3, 2, 0, "C3/2");
      dueCorner("C2/3", 4, 3, 0, "C1/3");
      dueCorner("C1/4", 1, 12, 0, "C1/6");
    });
    sentence(T, "(0, if that is below 0)", () -> {
      dueCorner("C1/3", 1, 2, 0, "C0/1");
      dueCorner("C1/6", 1, 2, 0, "C0/1");
      dueCorner("C1/6", 3, 5, 0, "C0/1");
      dueCorner("C0/1", 1, 2, 0, "C0/1");
      dueCorner("C0/1", 1, 12, 0, "C0/1");
      // Just 0 it is of itself.
      dueCorner("C1/2", 1, 2, 0, "C0/1");
      dueCorner("C1/6", 1, 6, 0, "C0/1");
    });
    sentence(T, "or (p s + q) by q s, in lowest terms", () -> {
      dueCorner("C1/2", 1, 2, 1, "C");
      dueCorner("C0/1", 2, 6, 1, "C1/6");
      dueCorner("C1/6", 3, 2, 1, "C2/3");
      dueCorner("C5/6", 4, 6, 1, "C");
      dueCorner("C1/4", 4, 12, 1, "C1/3");
    });
    sentence(T, "a half does not slip (both are as it is)", () -> {
      for (int mark = 1; mark <= 4; mark++) {
        dueCorner("Ch", mark, 2, 0, "Ch");
        dueCorner("Ch", mark, 2, 1, "Ch");
        dueCorner("Ch F", mark, 2, 0, "Ch F1/2");
        dueCorner("Ch F", mark, 2, 1, "Ch F1/2");
        due("tender", of("Ch").tender(mark, 2), NONE);
      }
    });
  }

  private static void corners() {
    sentence(T, "CORNER: for each LAYER (8 at most in the STACK) one of both: bits (set: the greater one).", () -> {
      dueCorner("", 1, 2, 0, "");
      dueCorner("C1/2 F1/2", 1, 2, 0, "C0/1 F0/1");
      dueCorner("C1/2 F1/2", 1, 2, 1, "C F0/1");
      dueCorner("C1/2 F1/2", 1, 2, 2, "C0/1 F");
      dueCorner("C1/2 F1/2", 1, 2, 3, "C F");
      dueCorner("4(C1/2 F1/2)", 1, 2, 0, "");
      dueCorner("4(C1/2 F1/2)", 1, 2, 0b11000001, "C C F");
      dueCorner("4(C1/2 F1/2)", 1, 2, 0b10000000, "F");
      dueCorner("2(C1/2 F1/2 C1/2 A1/2)", 1, 2, 255, "2(C F C A)");
      ThinCoats nine = of("9(C1/2)");
      due("corner of 9", nine.corner(1, 2, 0, 0), -2);
      due("worst of 9", nine.worst(1, 2, 0), -2);
      due("worst of 24", of("8(Ah Ah Ah)").worst(1, 2, 0), -2);
      due("corner of 24", of("8(Ah Ah Ah)").corner(1, 2, 0, 0), -2);
    });
  }

  private static int compare(long a, long b, long c, long d) {
    return BigInteger.valueOf(a).multiply(BigInteger.valueOf(d)).compareTo(BigInteger.valueOf(c).multiply(BigInteger.valueOf(b)));
  }

  /** The worst corner by all its corners, one after another; NONE where one of them is TOO FINE. */
  private static void dueWorst(String text, int mark, int s) {
    ThinCoats x = of(text);
    int worst = 0;
    boolean fine = false;
    for (int bits = 0; bits < 1 << x.look(0); bits++) {
      long above = x.corner(mark, s, bits, 0);
      long below = x.corner(mark, s, bits, 1);
      fine |= above == NONE;
      if (compare(above, below, x.corner(mark, s, worst, 0), x.corner(mark, s, worst, 1)) > 0) worst = bits;
    }
    due("worst of " + text, x.worst(mark, s, 0), fine ? NONE : worst);
    due("worst of " + text, x.worst(mark, s, 1), fine ? NONE : x.corner(mark, s, worst, 0));
    due("worst of " + text, x.worst(mark, s, 2), fine ? NONE : x.corner(mark, s, worst, 1));
  }

  private static void worstOfAll() {
    sentence(T, "WORST at a MARK: the CORNER of the greatest BACK", () -> {
      for (int mark = 1; mark <= 4; mark++) {
        dueWorst("C1/2", mark, 2);
        dueWorst("C F1/2", mark, 2);
        dueWorst("F1/2 C", mark, 2);
        dueWorst("C1/2 A F1/2 A", mark, 2);
        dueWorst("F C A1/2 C F", mark, 2);
      }
      dueWorst("2(C1/2 F1/2 A)", 1, 2);
    });
    sentence(T, "of several the least (as a number)", () -> {
      due("all alike", of("8(Ah)").worst(1, 2, 0), 0);
      due("none", new ThinCoats().worst(1, 2, 0), 0);
      // C by the one or by the other: 25 by 121 for both.
      due("01 and 10", of("C1/2 C1/2").worst(1, 2, 0), 1);
      due("001 and 100 and 111 and so on", of("C1/2 Ah C1/2").worst(1, 2, 0), 1);
      // The half may be told as the one or as the other.
      due("01 and 11", of("C1/2 Ch").worst(1, 2, 0), 1);
      due("10 and 11", of("Ch C1/2").worst(1, 2, 0), 2);
      due("in front of all the layer does nothing", of("A1/2 C1/2").worst(1, 2, 0), 2);
      due("10000000 and all others with it", of("7(Ch) C1/2").worst(1, 2, 0), 128);
    });
  }

  private static void tenderOfAll() {
    sentence(T, "TENDER: the LAYER by whose SLIP alone BACK grows most above what it is (of both its slips)", () -> {
      // A quarter of B to 9 by 4: by the lesser slip 1 by 17, by the greater 625 by 24961.
      ThinCoats x = toNineByFour();
      x.put(0, 1, 1, 1);
      due("by the lesser slip", x.tender(1, 2), 0);
      due("by the greater slip", of("A C1/2").tender(1, 2), 1);
      due("by the greater slip", of("C1/2 B").tender(1, 2), 0);
      String[] texts = {"C F1/2", "F1/2 C", "C1/2 F1/2", "F0/1 C", "D1/2 C D", "F1/2 A1/2 F0/1", "C A F", "Ch D1/2 Fh", "E D C"};
      for (String text : texts) {
        for (int mark = 1; mark <= 4; mark++) dueTender(text, mark);
      }
    });
    sentence(T, "of several the first", () -> {
      due("two of one kind", of("C1/4 C1/4").tender(1, 4), 0);
      due("behind one that does nothing", of("A C1/4 C1/4").tender(1, 4), 1);
      due("with a half between", of("C1/4 Fh C1/4").tender(1, 4), 0);
    });
    sentence(T, "none, if by none it grows", () -> {
      due("no layers", new ThinCoats().tender(1, 2), NONE);
      due("what does nothing", of("A2/3").tender(1, 2), NONE);
      due("a half", of("Ch").tender(1, 2), NONE);
      due("the greatest already", of("C").tender(1, 2), NONE);
      due("the greatest already", of("C").tender(3, 12), NONE);
    });
  }

  /** The tender layer by s 2, from stacks that have one layer slipped (1 by 1, 1 by 2, 0 by 1 and halves alone). */
  private static void dueTender(String text, int mark) {
    ThinCoats x = of(text);
    long[] most = {x.light(NONE, mark, 0), x.light(NONE, mark, 1)};
    boolean fine = most[0] == NONE;
    int tender = NONE;
    for (int i = 0; i < x.look(0); i++) {
      int p = x.layer(i, 1);
      int q = x.layer(i, 2);
      for (int side = -1; q > 0 && side <= 1; side += 2) {
        ThinCoats y = of(text);
        y.cut(i);
        due("put", y.put(i, x.layer(i, 0), Math.max(0, 2 * p + side * q), 2 * q) > 0, true);
        long[] back = {y.light(NONE, mark, 0), y.light(NONE, mark, 1)};
        fine |= back[0] == NONE;
        if (compare(back[0], back[1], most[0], most[1]) > 0) {
          most = back;
          tender = i;
        }
      }
    }
    due("tender of " + text + " at " + mark, x.tender(mark, 2), fine ? NONE : tender);
  }

  private static void worst() {
    sentence("22", "WORST at a MARK by s what 0 the CORNER, 1 BACK above, 2 below.", () -> {
      ThinCoats x = of("C1/2");
      due("worst(1, 2, 0)", x.worst(1, 2, 0), 1);
      due("worst(1, 2, 1)", x.worst(1, 2, 1), 25);
      due("worst(1, 2, 2)", x.worst(1, 2, 2), 121);
      ThinCoats none = new ThinCoats();
      due("worst(1, 2, 0) of none", none.worst(1, 2, 0), 0);
      due("worst(1, 2, 1) of none", none.worst(1, 2, 1), 1);
      due("worst(1, 2, 2) of none", none.worst(1, 2, 2), 25);
      ThinCoats eight = of("7(Ch) C1/2");
      due("worst(1, 2, 0) of 8", eight.worst(1, 2, 0), 128);
      due("worst(1, 2, 1) of 8", eight.worst(1, 2, 1), 25);
    });
    sentence("22", "NONE if one is TOO FINE", () -> {
      // At MARK 4 by 2 A1/5 slips to 0 by 1 and 7 by 10, by 12 A1/6 to 1 by 12 and 1 by 4.
      for (int what = 0; what <= 2; what++) {
        due("the greater one, " + what, of("A1/5").worst(4, 2, what), NONE);
        due("the lesser one, " + what, of("A1/6").worst(4, 12, what), NONE);
        due("the last of 8, " + what, of("7(Ah) A1/5").worst(4, 2, what), NONE);
        due("the first of 8, " + what, of("A1/5 7(Ah)").worst(4, 2, what), NONE);
      }
      due("not TOO FINE", of("A1/5").worst(4, 5, 0) >= 0, true);
    });
    sentence("22", "-2 if one can't be (more than 8 LAYERS)", () -> {
      due("8 LAYERS", of("8(C1/2)").worst(1, 2, 0) >= 0, true);
      for (int what = 0; what <= 2; what++) due("9 LAYERS", of("9(C1/2)").worst(1, 2, what), -2);
      ThinCoats x = of("C1/2");
      dueOutside("worst(mark, 2, 0)", 1, 4, mark -> x.worst(mark, 2, 0), -2);
      dueOutside("worst(1, s, 0)", 2, 12, s -> x.worst(1, s, 0), -2);
      dueOutside("worst(1, 2, what)", 0, 2, what -> x.worst(1, 2, what), -2);
      due("though one is TOO FINE", of("A1/5").worst(4, 2, 3), -2);
    });
  }

  private static void corner() {
    sentence("23", "BACK at a CORNER (bits), what 0 above, 1 below.", () -> {
      ThinCoats x = of("C1/2");
      due("corner(1, 2, 0, 0)", x.corner(1, 2, 0, 0), 1);
      due("corner(1, 2, 0, 1)", x.corner(1, 2, 0, 1), 25);
      due("corner(1, 2, 1, 0)", x.corner(1, 2, 1, 0), 25);
      due("corner(1, 2, 1, 1)", x.corner(1, 2, 1, 1), 121);
      due("corner(1, 2, 0, 1) of none", new ThinCoats().corner(1, 2, 0, 1), 25);
    });
    sentence("23", "NONE: TOO FINE", () -> {
      for (int what = 0; what <= 1; what++) {
        due("the greater one", of("A1/5").corner(4, 2, 1, what), NONE);
        due("the lesser one is not", of("A1/5").corner(4, 2, 0, what) >= 0, true);
        due("the lesser one", of("A1/6").corner(4, 12, 0, what), NONE);
        due("the greater one is not", of("A1/6").corner(4, 12, 1, what) >= 0, true);
      }
    });
    sentence("23", "-2 if one can't be", () -> {
      ThinCoats none = new ThinCoats();
      dueOutside("corner of none, bits", 0, 0, bits -> none.corner(1, 2, bits, 0), -2);
      ThinCoats x = of("C1/2 F1/2");
      dueOutside("corner of two, bits", 0, 3, bits -> x.corner(1, 2, bits, 0), -2);
      ThinCoats eight = of("7(Ah) C1/2");
      due("corner of eight, 255", eight.corner(1, 2, 255, 1), 121);
      dueOutside("corner of eight, bits", 0, 255, bits -> eight.corner(1, 2, bits, 0), -2);
      due("corner of nine", of("9(Ah)").corner(1, 2, 0, 0), -2);
      due("corner of nine", of("9(Ah)").corner(1, 2, 511, 0), -2);
      dueOutside("corner(mark, 2, 0, 0)", 1, 4, mark -> x.corner(mark, 2, 0, 0), -2);
      dueOutside("corner(1, s, 0, 0)", 2, 12, s -> x.corner(1, s, 0, 0), -2);
      dueOutside("corner(1, 2, 0, what)", 0, 1, what -> x.corner(1, 2, 0, what), -2);
      due("though it is TOO FINE", of("A1/5").corner(4, 2, 1, 2), -2);
    });
  }

  private static void tender() {
    sentence("24", "TENDER at a MARK by s (of any number of LAYERS).", () -> {
      due("of 8", of("7(Ah) C1/2").tender(1, 2), 7);
      due("of 9", of("8(Ah) C1/2").tender(1, 2), 8);
      due("of 24, the last", of("7(Ah Ah Ah) Ah Ah C1/2").tender(1, 2), 23);
      due("of 24, the first", of("C1/2 Ah Ah 7(Ah Ah Ah)").tender(1, 2), 0);
      due("of 24, all of one kind and none grows", of("8(Ah Ah Ah)").tender(1, 2), NONE);
    });
    sentence("24", "NONE: none, or one (the STACK itself, too) is TOO FINE", () -> {
      due("none", of("Ah").tender(1, 2), NONE);
      // F5/6 is TOO FINE at MARK 4; what it slips to by 2, 1 by 3 and 4 by 3, is not.
      due("the STACK itself", of("F5/6").tender(4, 2), NONE);
      due("F1/3", of("F1/3").marks(2) & 8, 0);
      due("F4/3", of("F4/3").marks(2) & 8, 0);
      due("F5/6", of("F5/6").marks(2) & 8, 8);
      // C1/2 grows, but another one slips to what is TOO FINE: ahead of it, behind it, to both its sides.
      due("none is TOO FINE", of("Ah C1/2").tender(2, 12), 1);
      due("both sides, ahead", of("A1/5 C1/2").tender(2, 12), NONE);
      due("both sides, behind", of("C1/2 B1/5").tender(2, 12), NONE);
      due("the STACK itself is not", of("A1/5 C1/2").marks(2) & 2, 0);
      due("the STACK itself is not", of("C1/2 B1/5").marks(2) & 2, 0);
    });
    sentence("24", "-2 if one can't be", () -> {
      ThinCoats x = of("C1/2");
      dueOutside("tender(mark, 2)", 1, 4, mark -> x.tender(mark, 2), -2);
      dueOutside("tender(1, s)", 2, 12, s -> x.tender(1, s), -2);
      dueOutside("tender(1, s) of TOO FINE ones", 2, 12, s -> fine().tender(1, s), -2);
      due("tender(0, 2) of none", new ThinCoats().tender(0, 2), -2);
    });
  }
}
