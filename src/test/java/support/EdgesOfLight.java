import java.math.BigInteger;

/** The edges of MARKS, MATRICES and of what is TOO FINE: the terms behind "==== 2.", promises 14 to 21. */
final class EdgesOfLight extends Checks {
  private static final String T = "Terms";
  private static final int NO_NUMBER = NONE - 20000000;
  private static final long NO_PART = Long.MIN_VALUE;
  /** Of index 1 by 1: - 9807913 and - 9733584, the greatest numbers for sums of squares that were found. */
  private static final String GREAT = "A3/1 A6/5 A5/1 A1/2 A5/4 A1/4";

  static void run() {
    marksOfCalls();
    tangents();
    matrices();
    tooFine();
    tooFineOf();
    backAndThrough();
    matrix();
    light();
    shareAndThrough();
    admittance();
    marks();
    extreme();
    below();
    belowRefused();
  }

  private static void marksOfCalls() {
    sentence(T, "A MARK is 1 .. 4.", () -> {
      ThinCoats x = of("C1/2");
      for (int mark = 1; mark <= 4; mark++) {
        due("matrix at " + mark, x.matrix(1, mark, 0) != NO_NUMBER, true);
        due("light at " + mark, x.light(1, mark, 1) > 0, true);
        due("share at " + mark, x.share(mark) > 0, true);
        due("through at " + mark, x.through(mark) > 0, true);
        due("admittance at " + mark, x.admittance(1, mark, 1) > 0, true);
        due("below at " + mark, x.below(mark, 1, 1), 2);
        due("worst at " + mark, x.worst(mark, 2, 2) > 0, true);
        due("corner at " + mark, x.corner(mark, 2, 0, 1) > 0, true);
        due("tender at " + mark, x.tender(mark, 2) != -2, true);
        due("tune at " + mark, of("C").tune(0, mark) >= 0, true);
      }
      dueOutside("matrix at", 1, 4, mark -> x.matrix(1, mark, 0), NO_NUMBER);
      dueOutside("light at", 1, 4, mark -> x.light(1, mark, 0), -2);
      dueOutside("share at", 1, 4, x::share, -2);
      dueOutside("through at", 1, 4, x::through, -2);
      dueOutside("admittance at", 1, 4, mark -> x.admittance(1, mark, 0), NO_PART);
      dueOutside("below at", 1, 4, mark -> x.below(mark, 1, 1), NONE);
      dueOutside("worst at", 1, 4, mark -> x.worst(mark, 2, 0), -2);
      dueOutside("corner at", 1, 4, mark -> x.corner(mark, 2, 0, 0), -2);
      dueOutside("tender at", 1, 4, mark -> x.tender(mark, 2), -2);
      dueOutside("tune at", 1, 4, mark -> x.tune(0, mark), -2);
    });
  }

  private static void dueTangents(String text, int... want) {
    ThinCoats x = of(text);
    for (int what = 1; what <= 8; what++) due("layer(0, " + what + ") of " + text, x.layer(0, what), want[what - 1]);
  }

  private static void tangents() {
    sentence(T, "P by Q, the parts of q and p times i to the k-th power (Q what is without i), in lowest terms", () -> {
      dueTangents("A1/3", 1, 3, 3, 4, 13, 9, 24, 7);
      dueTangents("A3/5", 3, 5, 15, 8, -99, 5, -240, 161);
    });
    sentence(T, "what is first of Q, P not 0 above 0", () -> {
      // 1 + 2 i: - 3 + 4 i, - 11 - 2 i, - 7 - 24 i.
      dueTangents("A2/1", 2, 1, -4, 3, 2, 11, 24, 7);
      // Q is 0: P is above 0. P is 0: 0 by 1.
      dueTangents("A", 1, 1, 1, 0, -1, 1, 0, 1);
      dueTangents("Ah", 1, 0, 0, 1, 1, 0, 0, 1);
      dueTangents("A0/1", 0, 1, 0, 1, 0, 1, 0, 1);
    });
  }

  private static void matrices() {
    sentence(T, "Of none: 1, 0, 0, 1.", () -> {
      for (int mark = 1; mark <= 4; mark++) {
        dueMatrix(new ThinCoats(), NONE, mark, 1, 0, 0, 1);
        dueMatrix(of("C1/2 B"), 0, mark, 1, 0, 0, 1);
      }
    });
    sentence(T, "Of a row of LAYERS, from the first one on", () -> {
      dueMatrix(of("C1/2 B"), NONE, 1, -18, 12, 27, -32);
      dueMatrix(of("B C1/2"), NONE, 1, -32, 12, 27, -18);
    });
    sentence(T, "Each MATRIX, of one LAYER and of a row, is without a common divisor (signs stay).", () -> {
      // - 6, 4, 16, - 6; - 72, 0, 0, - 72.
      dueMatrix(of("C2/1"), NONE, 1, -3, 2, 8, -3);
      ThinCoats x = ofIndices("Ah Ah Ah", 9, 8);
      dueMatrix(x, 1, 1, -1, 0, 0, -1);
      dueMatrix(x, 2, 1, 1, 0, 0, 1);
      dueMatrix(x, 3, 1, -1, 0, 0, -1);
      dueMatrix(of("BB"), NONE, 1, -1, 0, 0, -1);
      dueMatrix(of("BBB"), NONE, 1, 0, -4, -9, 0);
      dueMatrix(of("B0/1"), NONE, 1, 1, 0, 0, 1);
    });
  }

  /** A half in front turns all four signs. */
  private static ThinCoats turnedSigns(String text, int... uv) {
    return ofIndices("Ah " + text, uv);
  }

  private static void dueAtMost(String text, int[] want, int... uv) {
    dueMatrix(ofIndices(text, uv), NONE, 1, want);
    int[] turned = {-want[0], -want[1], -want[2], -want[3]};
    dueMatrix(turnedSigns(text, uv), NONE, 1, turned);
  }

  private static void dueBeyond(String text, int... uv) {
    for (ThinCoats x : new ThinCoats[] {ofIndices(text, uv), turnedSigns(text, uv)}) {
      int n = x.look(0);
      due("one less of " + text, x.matrix(n - 1, 1, 0) != NO_NUMBER, true);
      due("marks(2) of " + text, x.marks(2) & 1, 1);
      for (int i = 0; i < 4; i++) due("matrix of " + text, x.matrix(n, 1, i), NO_NUMBER);
    }
  }

  private static void tooFine() {
    sentence(T, "some number of one of these MATRICES is above 10000000 or below -10000000", () -> {
      // 10000000 in the first, second, third, fourth place.
      dueAtMost("A B2/3 C4/3 D5/2", new int[] {10000000, 9000000, 31689, 99396}, 1, 8, 5, 7, 1, 2, 7, 6);
      dueAtMost("A3/5 B4/3 C5/2", new int[] {4200000, -10000000, -1832551, -1527645}, 7, 8, 8, 5, 2, 5);
      dueAtMost("A5/3 B4/5 C1/3", new int[] {1278945, -504252, -10000000, -2712000}, 8, 3, 8, 9, 5, 1);
      dueAtMost("A B3/2 C2/5 D1/3", new int[] {1711, -45984, -2718750, 10000000}, 5, 1, 1, 5, 2, 5, 1, 8);
      // 10000001, - 10000020, - 10000017, 10000005 in one place alone.
      dueBeyond("A6/5 B1/2 C6/5 D5/2", 1, 5, 1, 2, 1, 5, 5, 2);
      dueBeyond("A2/5 B5/4 C4/1 D1/4", 1, 5, 1, 5, 5, 4, 1, 8);
      dueBeyond("A3/4 B3/1 C5/2", 9, 2, 1, 9, 9, 4);
      dueBeyond("A1/2 B1/4 C2/5 D6/1", 5, 1, 1, 8, 1, 1, 1, 4);
    });
  }

  private static void tooFineOf() {
    sentence(T, "(asked without common divisor", () -> {
      // Behind 0, - 262144, - 531441, 0 a quarter of A makes 21233664 and 34012224, with 5184 in both.
      ThinCoats x = ofIndices("ACAA", 9, 8, 3, 2, 8, 9);
      dueMatrix(x, 3, 1, 0, -262144, -531441, 0);
      dueMatrix(x, 4, 1, 4096, 0, 0, 6561);
    });
    sentence(T, "of the LAYER, then of the row)", () -> {
      // Slipped to 1 by 3 and 61 by 12, the second layer has 10651633 by itself; the row would have 521479.
      due("A1/4", of("A1/4").corner(2, 12, 1, 0) >= 0, true);
      due("A5/1", of("A5/1").corner(2, 12, 1, 0), NONE);
      due("A1/4 A5/1", of("A1/4 A5/1").corner(2, 12, 3, 0), NONE);
      // Once TOO FINE a row stays so, though its last layers would bring it down again.
      ThinCoats y = ofIndices("4(AB) BA BA", 1, 1, 9, 1);
      dueMatrix(y, 7, 1, 0, -531441, -1, 0);
      for (int n = 8; n <= 12; n++) due("matrix(" + n + ", 1, 0)", y.matrix(n, 1, 0), NO_NUMBER);
    });
  }

  private static BigInteger big(long n) {
    return BigInteger.valueOf(n);
  }

  /** BACK or THROUGH by the document's words, from matrix() and material(). */
  private static BigInteger[] share(ThinCoats x, int mark, int from, int ground, boolean back) {
    BigInteger[] m = new BigInteger[4];
    for (int i = 0; i < 4; i++) m[i] = big(x.matrix(NONE, mark, i));
    BigInteger u = big(x.material(from, 0));
    BigInteger v = big(x.material(from, 1));
    BigInteger g = big(x.material(ground, 0));
    BigInteger y = big(x.material(ground, 1));
    BigInteger[] real = {u.multiply(y).multiply(m[0]), v.multiply(g).multiply(m[3])};
    BigInteger[] other = {u.multiply(g).multiply(m[1]), v.multiply(y).multiply(m[2])};
    BigInteger below = real[0].add(real[1]).pow(2).add(other[0].add(other[1]).pow(2));
    BigInteger above = back ? real[0].subtract(real[1]).pow(2).add(other[0].subtract(other[1]).pow(2))
        : m[0].multiply(m[3]).add(m[1].multiply(m[2])).multiply(u).multiply(v).multiply(g).multiply(y).shiftLeft(2);
    BigInteger by = above.gcd(below);
    return new BigInteger[] {above.divide(by), below.divide(by)};
  }

  private static void dueShares(ThinCoats x, int mark, int from, int ground) {
    x.between(from, ground);
    BigInteger[] back = share(x, mark, from, ground, true);
    BigInteger[] through = share(x, mark, from, ground, false);
    due("BACK above", x.light(NONE, mark, 0), back[0].longValueExact());
    due("BACK below", x.light(NONE, mark, 1), back[1].longValueExact());
    due("THROUGH above", x.light(NONE, mark, 2), through[0].longValueExact());
    due("THROUGH below", x.light(NONE, mark, 3), through[1].longValueExact());
    BigInteger both = back[0].multiply(through[1]).add(through[0].multiply(back[1]));
    due("together 1", both.equals(back[1].multiply(through[1])), true);
  }

  private static void backAndThrough() {
    sentence(T, "Both in lowest terms: together they are 1.", () -> {
      // The greatest numbers that are not TOO FINE, between the sides that make them greatest.
      ThinCoats x = ofIndices(GREAT, 1, 1, 9, 8, 8, 9, 9, 1, 1, 9);
      dueMatrix(x, NONE, 1, -9807913, -9733584, -9733584, -9807913);
      for (int from = 1; from <= 4; from++) {
        for (int ground = 1; ground <= 4; ground++) dueShares(x, 1, from, ground);
      }
      ThinCoats y = ofIndices("A B2/3 C4/3 D5/2", 1, 8, 5, 7, 1, 2, 7, 6, 9, 8, 8, 9);
      dueShares(y, 1, 4, 5);
      dueShares(y, 1, 5, 4);
      dueShares(y, 1, 0, 4);
      // All goes through: 0 by 1 and 1 by 1.
      ThinCoats none = new ThinCoats();
      none.between(2, 2);
      dueBack(none, NONE, 1, 0, 1);
      due("THROUGH above", none.light(NONE, 1, 2), 1);
      due("THROUGH below", none.light(NONE, 1, 3), 1);
    });
    sentence(T, "each in lowest terms (0 by 1)", () -> {
      ThinCoats x = of("Ch");
      due("without i", x.admittance(NONE, 1, 0), 3);
      due("without i", x.admittance(NONE, 1, 1), 2);
      due("with i", x.admittance(NONE, 1, 2), 0);
      due("with i", x.admittance(NONE, 1, 3), 1);
      x.between(0, 5);
      due("without i", x.admittance(NONE, 1, 0), 3);
      due("without i", x.admittance(NONE, 1, 1), 1);
      // 7, 24, 24, 7 to 2 by 1: B 7 and 48, C 14 and 24: (98 + 1152) by 2353, (168 - 672) by 2353.
      ThinCoats y = of("A1/3 A1/3");
      y.between(0, 2);
      dueMatrix(y, NONE, 1, 7, 24, 24, 7);
      dueAdmittance(y, NONE, 1, 1250, 2353, -504, 2353);
    });
  }

  private static void matrix() {
    sentence("14", "The i-th number (0 .. 3) of the MATRIX of the first n LAYERS (NONE: all) at a MARK.", () -> {
      ThinCoats x = of("C1/2 B");
      dueMatrix(x, 0, 1, 1, 0, 0, 1);
      dueMatrix(x, 1, 1, 3, 2, 8, 3);
      dueMatrix(x, 1, 2, -7, 12, 48, -7);
      dueMatrix(x, 2, 1, -18, 12, 27, -32);
      dueMatrix(x, NONE, 1, -18, 12, 27, -32);
      dueMatrix(of("8(Ah Bh Ch)"), 24, 4, 1, 0, 0, 1);
    });
    sentence("14", "NONE - 20000000 if one can't be", () -> {
      ThinCoats x = of("C1/2 B");
      dueOutside("matrix(n, 1, 0)", -1, 2, n -> x.matrix(n, 1, 0), NO_NUMBER);
      dueOutside("matrix(2, 1, i)", 0, 3, i -> x.matrix(2, 1, i), NO_NUMBER);
      dueOutside("matrix(NONE, mark, 0)", 1, 4, mark -> x.matrix(NONE, mark, 0), NO_NUMBER);
      ThinCoats none = new ThinCoats();
      due("matrix(1, 1, 0) of none", none.matrix(1, 1, 0), NO_NUMBER);
    });
    sentence("14", ", TOO FINE.", () -> {
      ThinCoats x = fine();
      due("matrix(3, 1, 1)", x.matrix(3, 1, 1), -262144);
      for (int i = 0; i < 4; i++) due("matrix(4, 1, " + i + ")", x.matrix(4, 1, i), NO_NUMBER);
      due("matrix(NONE, 3, 0)", x.matrix(NONE, 3, 0), NO_NUMBER);
      due("matrix(NONE, 2, 0)", x.matrix(NONE, 2, 0), 1);
    });
  }

  private static void light() {
    sentence("15", "BACK of the first n LAYERS (NONE: all) at a MARK, what 0 above, 1 below, THROUGH 2 above, 3 below.", () -> {
      ThinCoats x = of("C Ch");
      long[][] want = {{1, 25, 24, 25}, {25, 121, 96, 121}, {25, 121, 96, 121}};
      for (int n = 0; n <= 2; n++) {
        for (int what = 0; what < 4; what++) due("light(" + n + ", 1, " + what + ")", x.light(n, 1, what), want[n][what]);
      }
      for (int what = 0; what < 4; what++) due("light(NONE, 3, " + what + ")", x.light(NONE, 3, what), want[2][what]);
    });
    sentence("15", "NONE: TOO FINE", () -> {
      ThinCoats x = fine();
      for (int what = 0; what < 4; what++) {
        due("light(3, 1, " + what + ")", x.light(3, 1, what) >= 0, true);
        due("light(4, 1, " + what + ")", x.light(4, 1, what), NONE);
        due("light(NONE, 1, " + what + ")", x.light(NONE, 1, what), NONE);
      }
    });
    sentence("15", "-2: one can't be", () -> {
      ThinCoats x = of("C Ch");
      dueOutside("light(n, 1, 0)", -1, 2, n -> x.light(n, 1, 0), -2);
      dueOutside("light(2, 1, what)", 0, 3, what -> x.light(2, 1, what), -2);
      dueOutside("light(NONE, mark, 0)", 1, 4, mark -> x.light(NONE, mark, 0), -2);
      due("one can't be, though it is TOO FINE", fine().light(4, 1, 4), -2);
      due("one can't be, though it is TOO FINE", fine().light(5, 1, 0), -2);
    });
  }

  private static void shareAndThrough() {
    sentence("16", "BACK of all at a MARK as a float: above by below, each cast to float, floatToIntBits of it.", () -> {
      due("25 by 121", of("C").share(1), Float.floatToIntBits(25f / 121f));
      ThinCoats none = new ThinCoats();
      none.between(2, 2);
      due("0 by 1", none.share(1), 0);
      ThinCoats x = ofIndices(GREAT, 1, 1, 9, 8, 8, 9, 9, 1, 1, 9);
      for (int from = 1; from <= 4; from++) {
        x.between(from, 5 - from);
        due("a great one", x.share(1), Float.floatToIntBits((float) x.light(NONE, 1, 0) / (float) x.light(NONE, 1, 1)));
      }
      // In lowest terms ahead of the cast: times 45 it would be the next float.
      dueBack(of("B1/2 E2/3"), NONE, 1, 162181, 669181);
      due("162181 by 669181", of("B1/2 E2/3").share(1), 1048063117);
      // Nearly all is thrown back: as a float it is 1.
      ThinCoats y = mirror();
      due("not all", y.light(NONE, 1, 0) < y.light(NONE, 1, 1), true);
      due("as a float", y.share(1), Float.floatToIntBits(1f));
    });
    sentence("16", "NONE likewise.", () -> {
      due("TOO FINE", fine().share(1), NONE);
      due("not TOO FINE", fine().share(2) > 0, true);
      dueOutside("share(mark)", 1, 4, of("C")::share, -2);
      dueOutside("share(mark) of TOO FINE ones", 1, 4, fine()::share, -2);
    });
    sentence("17", "THROUGH likewise as a double, doubleToLongBits of it.", () -> {
      due("96 by 121", of("C").through(1), Double.doubleToLongBits(96.0 / 121.0));
      ThinCoats none = new ThinCoats();
      none.between(2, 2);
      due("1 by 1", none.through(1), Double.doubleToLongBits(1.0));
      ThinCoats x = ofIndices(GREAT, 1, 1, 9, 8, 8, 9, 9, 1, 1, 9);
      for (int from = 1; from <= 4; from++) {
        x.between(from, 5 - from);
        due("a great one", x.through(1),
            Double.doubleToLongBits((double) x.light(NONE, 1, 2) / (double) x.light(NONE, 1, 3)));
      }
      ThinCoats y = mirror();
      due("a small one", y.through(1), Double.doubleToLongBits((double) y.light(NONE, 1, 2) / (double) y.light(NONE, 1, 3)));
      due("a small one", y.through(1) < Double.doubleToLongBits(1e-8), true);
    });
    sentence("17", "NONE likewise.", () -> {
      due("TOO FINE", fine().through(1), NONE);
      due("not TOO FINE", fine().through(2) > 0, true);
      dueOutside("through(mark)", 1, 4, of("C")::through, -2);
      dueOutside("through(mark) of TOO FINE ones", 1, 4, fine()::through, -2);
    });
  }

  /** 0, - 1, - 8503056, 0: from 1 by 9 to 1 by 9 next to nothing goes through. */
  private static ThinCoats mirror() {
    ThinCoats x = ofIndices("3(AB) C", 9, 1, 1, 1, 4, 1, 1, 9);
    x.between(3, 3);
    return x;
  }

  private static void dueAdmittance(ThinCoats x, int n, int mark, long... want) {
    for (int what = 0; what < 4; what++) {
      due("admittance(" + n + ", " + mark + ", " + what + ")", x.admittance(n, mark, what), want[what]);
    }
  }

  private static void admittance() {
    sentence("18", "ADMITTANCE of the first n LAYERS (NONE: all) at a MARK, the part without i what 0 above, 1 below, that with i 2 above, 3 below (0, 1 without).", () -> {
      ThinCoats x = of("C1/2 C");
      dueAdmittance(x, 0, 1, 3, 2, 0, 1);
      // 3, 2, 8, 3 to 3 by 2: B 6 and 6, C 9 and 16: (54 + 96) by 72, (96 - 54) by 72.
      dueAdmittance(x, 1, 1, 25, 12, 7, 12);
      // - 8, 3, 12, - 8 to 3 by 2: B - 16 and 9, C - 24 and 24: (384 + 216) by 337, (- 384 + 216) by 337.
      dueAdmittance(x, 2, 1, 600, 337, -168, 337);
      dueAdmittance(x, NONE, 1, 600, 337, -168, 337);
      dueAdmittance(of("C"), NONE, 1, 8, 3, 0, 1);
    });
    sentence("18", "Long.MIN_VALUE: TOO FINE", () -> {
      ThinCoats x = fine();
      for (int what = 0; what < 4; what++) {
        due("admittance(3, 1, " + what + ")", x.admittance(3, 1, what) != NO_PART, true);
        due("admittance(4, 1, " + what + ")", x.admittance(4, 1, what), NO_PART);
        due("admittance(NONE, 1, " + what + ")", x.admittance(NONE, 1, what), NO_PART);
      }
    });
    sentence("18", ", or one can't be.", () -> {
      ThinCoats x = of("C1/2 C");
      dueOutside("admittance(n, 1, 0)", -1, 2, n -> x.admittance(n, 1, 0), NO_PART);
      dueOutside("admittance(2, 1, what)", 0, 3, what -> x.admittance(2, 1, what), NO_PART);
      dueOutside("admittance(NONE, mark, 0)", 1, 4, mark -> x.admittance(NONE, mark, 0), NO_PART);
    });
  }

  private static void marks() {
    sentence("19", "MARKS (bits 0 .. 3: MARK 1 .. 4) at which BACK of all is 0 (what 0), THROUGH is 0 (1), it is TOO FINE (2).", () -> {
      ThinCoats none = new ThinCoats();
      due("marks(0)", none.marks(0), 0);
      none.between(2, 2);
      due("marks(0), none between one and the same", none.marks(0), 15);
      due("marks(1)", none.marks(1), 0);
      due("marks(2)", none.marks(2), 0);
      ThinCoats x = toNineByFour();
      x.put(0, 1, 1, 1);
      due("marks(0)", x.marks(0), 5);
      x.between(0, 0);
      due("marks(0)", x.marks(0), 10);
      ThinCoats fine = fine();
      due("marks(2)", fine.marks(2), 5);
      due("marks(0), where it is TOO FINE BACK isn't 0", fine.marks(0), 0);
      due("marks(1), nor is THROUGH", fine.marks(1), 0);
      // At MARK 4 alone, where three layers have 625 each.
      ThinCoats three = of("3(A1/2)");
      three.between(0, 0);
      due("marks(2)", three.marks(2), 8);
      due("marks(0)", three.marks(0), 7);
      due("marks(1) of a mirror", mirror().marks(1), 0);
    });
    sentence("19", "NONE for another what.", () -> {
      dueOutside("marks(what)", 0, 2, of("C")::marks, NONE);
      dueOutside("marks(what) of TOO FINE ones", 0, 2, fine()::marks, NONE);
    });
  }

  private static void extreme() {
    sentence("20", "Of MARKS 1 .. 4 the one of the least BACK (what 0; of several the least), of the greatest (1).", () -> {
      due("all alike, least", new ThinCoats().extreme(0), 1);
      due("all alike, greatest", new ThinCoats().extreme(1), 1);
      // A quarter of C: 25 by 121 at MARKS 1 and 3, 1 by 25 at 2 and 4.
      due("least", of("C").extreme(0), 2);
      due("greatest", of("C").extreme(1), 1);
      // A quarter of 5 by 4 the other way round.
      due("least", ofIndices("C", 1, 1, 3, 2, 5, 4).extreme(0), 1);
      due("greatest", ofIndices("C", 1, 1, 3, 2, 5, 4).extreme(1), 2);
      // A thin one is thickest at MARK 4; C2/5 is nearly a half there.
      due("least", of("C1/6").extreme(0), 1);
      due("greatest", of("C1/6").extreme(1), 4);
      due("least of the last", of("C2/5").extreme(0), 4);
      due("greatest", of("C2/5").extreme(1), 2);
      // TOO FINE at MARKS 1 and 3.
      due("TOO FINE ones are none", fine().extreme(0), 2);
      due("TOO FINE ones are none", fine().extreme(1), 2);
    });
    sentence("20", "NONE if all are TOO FINE", () -> {
      ThinCoats x = ofIndices("2(AC) 4(A1/3 C1/3 A2/5)", 9, 8, 3, 2, 8, 9);
      due("marks(2)", x.marks(2), 15);
      due("extreme(0)", x.extreme(0), NONE);
      due("extreme(1)", x.extreme(1), NONE);
    });
    sentence("20", "or another what", () -> {
      dueOutside("extreme(what)", 0, 1, of("C")::extreme, NONE);
    });
  }

  private static void below() {
    sentence("21", "How many beginnings of the STACK (0 .. all LAYERS) have a BACK at a MARK that is above by below (0 .. 1000 by 1 .. 1000) at most", () -> {
      due("of none", new ThinCoats().below(1, 1, 1), 1);
      due("of none, as much", new ThinCoats().below(1, 1, 25), 1);
      due("of none, less", new ThinCoats().below(1, 1, 26), 0);
      // Of C, Ch, Ch: 1 by 25, then 25 by 121 three times.
      ThinCoats x = of("C Ch Ch");
      due("below(1, 0, 1)", x.below(1, 0, 1), 0);
      due("below(1, 40, 1000), as much as 1 by 25", x.below(1, 40, 1000), 1);
      due("below(1, 39, 1000)", x.below(1, 39, 1000), 0);
      due("below(1, 25, 121), as much", x.below(1, 25, 121), 4);
      due("below(1, 200, 968), as much", x.below(1, 200, 968), 4);
      due("below(1, 199, 968)", x.below(1, 199, 968), 1);
      due("below(1, 200, 969)", x.below(1, 200, 969), 1);
      due("below(1, 1000, 1)", x.below(1, 1000, 1), 4);
      due("below(1, 1000, 1000)", x.below(1, 1000, 1000), 4);
      due("below(1, 0, 1000)", x.below(1, 0, 1000), 0);
      due("of 24", of("8(3(Ah))").below(1, 1, 25), 25);
      x.between(0, 0);
      due("0 is 0 by 1 at most", x.below(1, 0, 1), 1);
      due("0 is 0 by 1000 at most", x.below(2, 0, 1000), 4);
    });
    sentence("21", "those TOO FINE don't", () -> {
      due("below(1, 1, 1)", fine().below(1, 1, 1), 4);
      due("below(1, 1000, 1)", fine().below(1, 1000, 1), 4);
      due("below(2, 1, 1)", fine().below(2, 1, 1), 5);
      due("nor those behind one", ofIndices("4(AB) BA BA", 1, 1, 9, 1).below(1, 1000, 1), 8);
    });
  }

  private static void belowRefused() {
    sentence("21", "NONE if one can't be.", () -> {
      ThinCoats x = of("C");
      dueOutside("below(1, above, 1)", 0, 1000, above -> x.below(1, above, 1), NONE);
      dueOutside("below(1, 1, below)", 1, 1000, below -> x.below(1, 1, below), NONE);
      dueOutside("below(mark, 1, 1)", 1, 4, mark -> x.below(mark, 1, 1), NONE);
    });
  }
}
