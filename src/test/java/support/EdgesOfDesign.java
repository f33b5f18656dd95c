import java.math.BigInteger;
import java.util.function.Supplier;

/** The edges of what is WANTED, tuned, added and spare: its terms, promises 25 to 28 and 33. */
final class EdgesOfDesign extends Checks {
  private static final String T = "Terms";
  private static final int LEAST = Integer.MIN_VALUE;
  private static final int A = 1;
  private static final int B = 2;
  private static final int C = 4;
  private static final int D = 8;
  private static final int E = 16;
  private static final int F = 32;
  private static final int QUARTER = 1;
  private static final int ALL = 127;
  private static final int[][] THICK = {{1, 1}, {1, 2}, {2, 1}, {1, 3}, {3, 1}, {2, 3}, {3, 2}};
  /** Sets that have none of MARKS, of MATERIALS, of THICKNESSES. */
  private static final int[][] EMPTY = {{0, 63, 127}, {16, 63, 127}, {-16, 63, 127}, {LEAST, 63, 127},
    {15, 0, 127}, {15, 64, 127}, {15, -64, 127}, {15, LEAST, 127},
    {15, 63, 0}, {15, 63, 128}, {15, 63, -128}, {15, 63, LEAST}, {0, 0, 0}};

  static void run() {
    thicknesses();
    rows();
    rowsTooFine();
    rowsInOrder();
    wanted();
    ways();
    tune();
    tuneRefused();
    addFirst();
    addLess();
    addRefused();
    spare();
    spareTooFine();
  }

  /** From A to A, both 1 by 1; B and C are 2 by 1. */
  private static ThinCoats fromAToA() {
    ThinCoats x = new ThinCoats();
    x.index(1, 2, 1);
    x.between(0, 0);
    return x;
  }

  /** From A to A with A and F of 1 by 1: no row of A and F throws anything back. */
  private static ThinCoats clear() {
    ThinCoats x = fromAToA();
    x.index(5, 1, 1);
    return x;
  }

  private static void dueWanted(ThinCoats x, int marks, int materials, int thicknesses, int n, String want) {
    String call = "wanted(" + marks + ", " + materials + ", " + thicknesses + ", " + n + ")";
    if (want == null) {
      dueStays(x, call, () -> x.wanted(marks, materials, thicknesses, n), NONE);
    } else {
      int many = x.wanted(marks, materials, thicknesses, n);
      dueText(x, want);
      due(call, many, x.look(0));
    }
  }

  private static void thicknesses() {
    sentence(T, "THICKNESSES 0 .. 6: 1 by 1, 1 by 2, 2 by 1, 1 by 3, 3 by 1, 2 by 3, 3 by 2.", () -> {
      for (int t = 0; t < 7; t++) {
        ThinCoats x = fromAToA();
        due("wanted", x.wanted(1, A, 1 << t, 1), 1);
        due("p of " + t, x.layer(0, 1), THICK[t][0]);
        due("q of " + t, x.layer(0, 2), THICK[t][1]);
        // The same ones for add(): 5 by 4 is better than nothing, however thick.
        ThinCoats y = new ThinCoats();
        y.index(3, 5, 4);
        due("add", y.add(1, D, 1 << t), 0);
        due("p of " + t, y.layer(0, 1), THICK[t][0]);
        due("q of " + t, y.layer(0, 2), THICK[t][1]);
      }
    });
  }

  private static void rows() {
    sentence(T, "WANTED: of rows of 1 to n (1 .. 3) LAYERS", () -> {
      // One: B 3 by 2 to 9 by 4. Two: 3 by 2 and 3 by 1 to 4 by 1. Three: 3 by 1, 6 by 1, 3 by 1 to 9 by 4.
      for (int n = 1; n <= 3; n++) {
        dueWanted(toNineByFour(), 1, B | C, QUARTER, n, "B");
        ThinCoats two = new ThinCoats();
        two.index(3, 4, 1);
        two.between(0, 3);
        dueWanted(two, 1, B | F, QUARTER, n, n < 2 ? null : "BF");
        ThinCoats three = toNineByFour();
        three.index(1, 3, 1);
        three.index(2, 6, 1);
        dueWanted(three, 1, B | C, QUARTER, n, n < 3 ? null : "BCB");
      }
    });
    sentence(T, "of MATERIALS of a set, THICKNESSES of a set", () -> {
      dueWanted(toNineByFour(), 1, 63 ^ B, QUARTER, 1, null);
      dueWanted(toNineByFour(), 1, B, ALL ^ QUARTER, 3, null);
      dueWanted(toNineByFour(), 1, B, ALL, 3, "B");
    });
    sentence(T, "no two MATERIALS alike side by side", () -> {
      // Two quarters of 2 by 1 are a half, but not of B and B.
      dueWanted(fromAToA(), 1, B, ALL, 3, null);
      dueWanted(fromAToA(), 1, B | C, ALL, 3, "BC");
      due("of one MATERIAL", fromAToA().ways(1, B, ALL, 2), 0);
      due("of two", fromAToA().ways(1, B | C, ALL, 2), 14);
      // First and third may be alike.
      due("of three", clear().ways(1, A | F, QUARTER, 3), 2);
      due("of three", clear().ways(1, A, QUARTER, 3), 0);
    });
    sentence(T, "and have BACK 0 at all of these", () -> {
      dueWanted(toNineByFour(), 1, B, QUARTER, 1, "B");
      dueWanted(toNineByFour(), 4, B, QUARTER, 1, "B");
      dueWanted(toNineByFour(), 5, B, QUARTER, 1, "B");
      dueWanted(toNineByFour(), 2, B, QUARTER, 1, null);
      dueWanted(toNineByFour(), 3, B, QUARTER, 1, null);
      dueWanted(toNineByFour(), 13, B, QUARTER, 1, null);
      // A quarter is a half at MARK 2, nothing at MARK 4.
      dueWanted(fromAToA(), 10, C, QUARTER, 1, "C");
      dueWanted(fromAToA(), 11, C, QUARTER, 1, null);
    });
  }

  private static void rowsTooFine() {
    sentence(T, "which at no MARK of a set of MARKS are TOO FINE", () -> {
      // At MARK 4 three layers of 1 by 2 have 625 each: the two rows of these alone are TOO FINE.
      due("at MARK 1", clear().ways(1, A | F, 3, 3), 16);
      due("at MARK 4", clear().ways(8, A | F, 3, 3), 14);
      due("at all", clear().ways(15, A | F, 3, 3), 14);
      due("at all but 4", clear().ways(7, A | F, 3, 3), 16);
      // One after another, of one object: what was asked at MARK 4 is not asked at MARK 1.
      ThinCoats x = clear();
      due("at MARK 4", x.ways(8, A | F, 3, 3), 14);
      due("at MARK 1", x.ways(1, A | F, 3, 3), 16);
      due("at MARK 4", x.ways(8, A | F, 3, 3), 14);
    });
    sentence(T, "(nor any beginning of theirs)", () -> {
      // At MARK 4 of 2 by 3 and 3 by 2, each 28561, two alike are TOO FINE, though a third one unlike brings
      // them down again: of the 8 rows from A on 4 are left, and as many from F on.
      due("of two", clear().ways(8, A | F, 0b1100000, 2), 4);
      due("of three", clear().ways(8, A | F, 0b1100000, 3), 8);
      due("of three at MARK 1", clear().ways(1, A | F, 0b1100000, 3), 16);
    });
  }

  private static void rowsInOrder() {
    sentence(T, "have BACK 0 at all of these: the shortest", () -> {
      // A in front would come first and change nothing.
      dueWanted(toNineByFour(), 1, A | B, ALL, 3, "B");
      dueWanted(toNineByFour(), 1, 63, ALL, 3, "B");
      due("of two there are some", toNineByFour().ways(1, A | B, ALL, 2) > 0, true);
    });
    sentence(T, "of these the first one by MATERIAL of its first LAYER, by its THICKNESS (as numbered), then by the second one and so on", () -> {
      for (int t = 0; t < 7; t++) {
        String want = t == 0 ? "" : THICK[t][0] + "/" + THICK[t][1];
        dueWanted(clear(), 1, A | F, ALL << t & ALL, 3, "A" + want);
        dueWanted(clear(), 1, F, ALL << t & ALL, 3, "F" + want);
      }
      // 1 by 2 goes with 2 by 1 or with 1 by 3 at MARK 2: 2 by 1 is the first as numbered.
      dueWanted(fromAToA(), 2, B | C, ALL ^ QUARTER, 2, "B1/2C2/1");
      dueWanted(fromAToA(), 2, B | C, 0b1010, 2, "B1/2C1/3");
      dueWanted(fromAToA(), 2, B | C, 0b10100, 2, "B2/1C3/1");
      // To 4 by 1: B and F, C and E; and where E is as F, B and E.
      ThinCoats x = new ThinCoats();
      x.index(2, 5, 4);
      x.index(3, 4, 1);
      x.between(0, 3);
      dueWanted(x, 1, B | C | E | F, QUARTER, 2, "BF");
      dueWanted(x, 1, C | E | F, QUARTER, 2, "CE");
      x.index(4, 3, 1);
      dueWanted(x, 1, B | E | F, QUARTER, 2, "BE");
    });
  }

  private static void wanted() {
    sentence("25", "WANTED becomes the STACK (a change, if there is one): how many LAYERS.", () -> {
      ThinCoats x = toNineByFour();
      tape(x, "8(ACF)");
      x.stack();
      due("wanted", x.wanted(1, B, QUARTER, 3), 1);
      dueText(x, "B");
      due("a change", x.look(3), 2);
      due("wanted, the same again", x.wanted(1, B, QUARTER, 3), 1);
      due("a change", x.look(3), 3);
      x.undo();
      x.undo();
      due("look(0)", x.look(0), 24);
    });
    sentence("25", "NONE: none (all stays)", () -> {
      ThinCoats x = toNineByFour();
      tape(x, "8(ACF)");
      x.stack();
      dueStays(x, "wanted", () -> x.wanted(2, B, QUARTER, 3), NONE);
      ThinCoats y = new ThinCoats();
      dueStays(y, "wanted of a new object", () -> y.wanted(15, 63, ALL, 1), NONE);
    });
    sentence("25", "-2 if one can't be (no MARK, no MATERIAL, no THICKNESS in the sets: bits 0 .. 3, 0 .. 5, 0 .. 6)", () -> {
      ThinCoats x = toNineByFour();
      x.put(0, 2, 1, 1);
      String before = state(x);
      for (int[] e : EMPTY) due("wanted of empty sets", x.wanted(e[0], e[1], e[2], 3), -2);
      dueOutside("wanted of n", 1, 3, n -> x.wanted(1, B, QUARTER, n), -2);
      dueWords("what is there", state(x), before);
      // The highest bits that count; those beside them that don't are passed over.
      due("MARK 4, MATERIAL F, THICKNESS 6", clear().wanted(8, F, 64, 1), 1);
      due("one that counts", clear().wanted(LEAST | 24, 64 | F, 128 | 64, 1), 1);
      due("all bits", clear().wanted(-1, -1, -1, 1), 1);
    });
  }

  private static void ways() {
    sentence("26", "How many rows of just n (1 .. 3) LAYERS hold as WANTED has it.", () -> {
      ThinCoats x = new ThinCoats();
      for (int m = 1; m < 6; m++) x.index(m, 1, 1);
      due("all of 1", x.ways(1, 63, ALL, 1), 42);
      due("all of 2", x.ways(1, 63, ALL, 2), 42 * 35);
      due("all of 3", x.ways(1, 63, ALL, 3), 42 * 35 * 35);
      // Of just n: of two there are some, of one and of three by quarters none.
      due("of 1", fromAToA().ways(1, B | C, QUARTER, 1), 0);
      due("of 2", fromAToA().ways(1, B | C, QUARTER, 2), 2);
      due("of 3", fromAToA().ways(1, B | C, QUARTER, 3), 0);
      ThinCoats y = of("AB");
      y.between(0, 0);
      dueStays(y, "ways changes nothing", () -> y.ways(2, 63, QUARTER, 1), 6);
    });
    sentence("26", "-2 likewise.", () -> {
      ThinCoats x = clear();
      for (int[] e : EMPTY) due("ways of empty sets", x.ways(e[0], e[1], e[2], 3), -2);
      dueOutside("ways of n", 1, 3, n -> x.ways(1, B, QUARTER, n), -2);
      due("one that counts", x.ways(LEAST | 24, 64 | F, 128 | 64, 1), 1);
      due("all bits", x.ways(-1, A - 64, -128 | 1, 1), 1);
    });
  }

  // ---- tune ----

  private static void dueTuned(ThinCoats x, int i, int mark, int want, String text) {
    int changes = x.look(3);
    due("tune(" + i + ", " + mark + ")", x.tune(i, mark), want);
    dueText(x, text);
    due("a change", x.look(3), changes + 1);
  }

  private static void tune() {
    sentence("27", "LAYER i gets the THICKNESS (0 .. 6) with the least BACK at a MARK", () -> {
      // 5 by 4 between 1 by 1 and 3 by 2 is best as a quarter.
      dueTuned(ofIndices("Fh D Fh", 1, 1, 3, 2, 2, 1, 5, 4), 1, 1, 0, "FhDFh");
      dueTuned(ofIndices("Fh D1/6 Fh", 1, 1, 3, 2, 2, 1, 5, 4), 1, 1, 0, "FhDFh");
      // 3 by 1 is worst so: 1 by 3 and 3 by 1 are as near to nothing and to a half.
      dueTuned(of("Ah F Ah"), 1, 1, 3, "AhF1/3Ah");
      dueTuned(of("F"), 0, 2, 0, "F");
      // In 24 layers the last one.
      due("tune(23, 1)", ofIndices("7(Ah Bh Ch) Ah Bh D1/6", 1, 1, 3, 2, 2, 1, 5, 4).tune(23, 1), 0);
    });
    sentence("27", "of several the least number", () -> {
      dueTuned(of("A6/5"), 0, 3, 0, "A");
      // At MARK 4 2 by 3 and 3 by 2 are as near to a quarter.
      dueTuned(ofIndices("D", 1, 1, 3, 2, 2, 1, 5, 4), 0, 4, 5, "D2/3");
    });
    sentence("27", "TOO FINE ones are none", () -> {
      // Behind - 531441, 0, 0, - 1 all but a quarter of D (7 by 1) are TOO FINE.
      ThinCoats x = ofIndices("3(AB) D1/3", 1, 1, 9, 1, 2, 1, 7, 1);
      for (int t = 1; t < 7; t++) {
        x.cut(6);
        x.put(6, 3, THICK[t][0], THICK[t][1]);
        due("TOO FINE " + t, x.marks(2) & 1, 1);
      }
      due("tune(6, 1)", x.tune(6, 1), 0);
      due("not TOO FINE", x.marks(2) & 1, 0);
    });
    sentence("27", "its number (a change of the STACK in any case)", () -> {
      ThinCoats x = of("A");
      dueTuned(x, 0, 1, 0, "A");
      dueTuned(x, 0, 1, 0, "A");
      x.undo();
      x.undo();
      dueText(x, "A");
    });
  }

  private static void tuneRefused() {
    sentence("27", "NONE: all are TOO FINE (nothing done)", () -> {
      ThinCoats x = ofIndices("2(AC) D1/3", 9, 8, 3, 2, 8, 9);
      dueStays(x, "tune(4, 1), behind what is TOO FINE", () -> x.tune(4, 1), NONE);
      // At each THICKNESS: in front of it, too.
      ThinCoats y = ofIndices("Ch 2(AC)", 9, 8, 3, 2, 8, 9);
      for (int t = 0; t < 7; t++) {
        y.cut(0);
        y.put(0, 2, THICK[t][0], THICK[t][1]);
        due("TOO FINE " + t, y.marks(2) & 1, 1);
      }
      dueStays(y, "tune(0, 1), in front of it", () -> y.tune(0, 1), NONE);
    });
    sentence("27", "-2 if one can't be", () -> {
      ThinCoats none = new ThinCoats();
      dueStays(none, "tune(0, 1) of none", () -> none.tune(0, 1), -2);
      dueStays(none, "tune(NONE, 1) of none", () -> none.tune(NONE, 1), -2);
      ThinCoats x = of("AB1/2C");
      String before = state(x);
      dueOutside("tune(i, 1)", 0, 2, i -> x.tune(i, 1), -2);
      dueOutside("tune(0, mark)", 1, 4, mark -> x.tune(0, mark), -2);
      dueWords("what is there", state(x), before);
    });
  }

  // ---- add ----

  private static void dueAdded(ThinCoats x, int marks, int materials, int thicknesses, int place, String want) {
    int changes = x.look(3);
    due("add(" + marks + ", " + materials + ", " + thicknesses + ")", x.add(marks, materials, thicknesses), place);
    dueText(x, want);
    due("a change", x.look(3), changes + 1);
  }

  private static int compare(long a, long b, long c, long d) {
    return BigInteger.valueOf(a).multiply(BigInteger.valueOf(d)).compareTo(BigInteger.valueOf(c).multiply(BigInteger.valueOf(b)));
  }

  /** The greatest BACK at the marks, above and below; null where it is TOO FINE at one. */
  private static long[] greatest(ThinCoats x, int marks) {
    long[] most = {0, 1};
    for (int mark = 1; mark <= 4; mark++) {
      if ((marks >> mark - 1 & 1) == 0) continue;
      long above = x.light(NONE, mark, 0);
      long below = x.light(NONE, mark, 1);
      if (above == NONE) return null;
      if (compare(above, below, most[0], most[1]) > 0) most = new long[] {above, below};
    }
    return most;
  }

  /** add() against all layers that may be put, each into a stack of its own. */
  private static void dueAddOfAll(Supplier<ThinCoats> made, int marks, int materials, int thicknesses) {
    long[] least = greatest(made.get(), marks);
    int place = NONE;
    String want = shown(made.get());
    for (int at = 0; at <= made.get().look(0); at++) {
      for (int k = 0; k < 42; k++) {
        if ((materials >> k / 7 & 1) == 0 || (thicknesses >> k % 7 & 1) == 0) continue;
        ThinCoats y = made.get();
        y.put(at, k / 7, THICK[k % 7][0], THICK[k % 7][1]);
        long[] now = greatest(y, marks);
        if (now != null && (least == null || compare(now[0], now[1], least[0], least[1]) < 0)) {
          least = now;
          place = at;
          want = shown(y);
        }
      }
    }
    ThinCoats x = made.get();
    due("add(" + marks + ", " + materials + ", " + thicknesses + ") to " + shown(made.get()),
        x.add(marks, materials, thicknesses), place);
    dueText(x, want);
  }

  private static void addFirst() {
    sentence("28", "The LAYER more (a place 0 .. how many, a MATERIAL of a set, a THICKNESS of a set: bits)", () -> {
      dueAdded(toNineByFour(), 1, 63, ALL, 0, "B");
      // Between, behind, in front: each the one place where nothing is thrown back.
      ThinCoats between = ofIndices("BB", 1, 1, 3, 1, 6, 1, 9, 4);
      between.between(0, 3);
      dueAdded(between, 1, C, QUARTER, 1, "BCB");
      dueAdded(eToFour(), 1, B, QUARTER, 1, "EB");
      dueAdded(eToFour(), 1, C, QUARTER, 0, "CE");
      // To 23: behind the first quarter of A there are 22, which are halves together.
      ThinCoats many = toNineByFour();
      tape(many, "7(AAA) AA");
      many.stack();
      dueAdded(many, 1, B, QUARTER, 1, "AB" + "A".repeat(22));
    });
    sentence("28", "by which the greatest BACK at MARKS of a set is least", () -> {
      for (int marks = 1; marks < 16; marks++) {
        dueAddOfAll(Checks::toNineByFour, marks, 63, ALL);
        dueAddOfAll(() -> of("C1/2 A"), marks, C | D | F, 0b0001011);
        dueAddOfAll(() -> of("E"), marks, B | D, 0b1100010);
      }
    });
    sentence("28", "of several the first place, then MATERIAL, then THICKNESS", () -> {
      ThinCoats place = toNineByFour();
      place.put(0, 0, 1, 0);
      dueAdded(place, 1, B, QUARTER, 0, "BAh");
      // C in front, B behind: the place comes ahead of the MATERIAL.
      dueAdded(eToFour(), 1, B | C, QUARTER, 0, "CE");
      // B3/2 and C2/1 in front leave 1 by 121 both: the MATERIAL comes ahead of the THICKNESS.
      dueBack(eThreeByOne("C2/1 E3/1"), NONE, 2, 1, 121);
      dueBack(eThreeByOne("B3/2 E3/1"), NONE, 2, 1, 121);
      dueAdded(eThreeByOne("E3/1"), 2, B | C, 0b1000100, 0, "B3/2E3/1");
      ThinCoats alike = toNineByFour();
      alike.index(2, 3, 2);
      dueAdded(alike, 1, B | C, QUARTER, 0, "B");
      // At MARK 4 1 by 2 is as 3 by 1, 2 by 1 as 1 by 3.
      dueAdded(toNineByFour(), 8, B, 0b0010010, 0, "B1/2");
      dueAdded(toNineByFour(), 8, B, 0b0001100, 0, "B2/1");
    });
    sentence("28", "TOO FINE ones are none", () -> {
      // A1/3 makes each of these TOO FINE, wherever it is put; a half of A, which is not to be had, would not.
      Supplier<ThinCoats> made = () -> ofIndices("3(AB) C", 9, 1, 1, 1, 4, 1);
      for (int at = 0; at <= 7; at++) {
        ThinCoats y = made.get();
        y.put(at, 0, 1, 3);
        due("TOO FINE at " + at, y.marks(2) & 1, 1);
      }
      ThinCoats x = made.get();
      dueStays(x, "add", () -> x.add(1, A, 8), NONE);
      // Of all: those that are left.
      dueAddOfAll(made, 1, 63, ALL);
      dueAddOfAll(made, 9, A | B, ALL);
    });
  }

  /** A quarter of E (3 by 2) to 4 by 1: C (3 by 4) in front of it or B (3 by 1) behind it is wanting. */
  private static ThinCoats eToFour() {
    ThinCoats x = ofIndices("E", 1, 1, 3, 1, 3, 4, 4, 1, 3, 2);
    x.between(0, 3);
    return x;
  }

  private static ThinCoats eThreeByOne(String text) {
    ThinCoats x = ofIndices(text, 1, 1, 7, 5, 7, 6, 5, 6, 7, 6);
    x.between(0, 3);
    return x;
  }

  private static void addLess() {
    sentence("28", "if that is less than it is", () -> {
      // A in front changes nothing: as much is not less.
      ThinCoats x = of("C");
      dueStays(x, "add", () -> x.add(1, A, QUARTER), NONE);
      ThinCoats none = new ThinCoats();
      dueStays(none, "add to none", () -> none.add(15, A, ALL), NONE);
      // It is 0 already.
      ThinCoats best = toNineByFour();
      best.put(0, 1, 1, 1);
      dueStays(best, "add", () -> best.add(1, 63, ALL), NONE);
      // Whatever was found before: 9 by 1 throws much back, the quarter that comes then nothing.
      ThinCoats after = toNineByFour();
      after.put(0, 5, 1, 1);
      due("much", after.extreme(1), 1);
      after.cut(0);
      after.put(0, 1, 1, 1);
      dueStays(after, "add", () -> after.add(1, 63, ALL), NONE);
      ThinCoats more = of("C");
      more.index(5, 9, 1);
      more.put(0, 5, 1, 1);
      due("much", more.extreme(1), 1);
      more.cut(0);
      dueStays(more, "add", () -> more.add(1, A, QUARTER), NONE);
      // At MARK 1 less, at MARK 2 as much.
      ThinCoats two = toNineByFour();
      dueStays(two, "add", () -> two.add(3, 63, QUARTER), NONE);
    });
    sentence("28", "(TOO FINE: any is less)", () -> {
      dueAdded(fine(), 1, C, QUARTER, 1, "ACCAC");
      // At MARK 1 alone, though at MARK 2 it is as much.
      dueAdded(fine(), 3, C, QUARTER, 1, "ACCAC");
      dueAddOfAll(Checks::fine, 1, A | B | C, ALL);
      // It would throw nothing back were it not TOO FINE: what can be told is less for all that.
      Supplier<ThinCoats> clear = () -> {
        ThinCoats y = of("3(A1/2)");
        y.between(0, 0);
        return y;
      };
      dueAdded(clear.get(), 8, A, 0b100, 0, "A2/1A1/2A1/2A1/2");
      dueAddOfAll(clear, 8, 63, 0b1111110);
      dueAddOfAll(clear, 12, A | C, 0b1111110);
      // At MARK 2 it is not TOO FINE: by halves it is as much.
      ThinCoats x = fine();
      dueStays(x, "add", () -> x.add(2, C, QUARTER), NONE);
    });
    sentence("28", "is put there (a change): its place", () -> {
      ThinCoats x = toNineByFour();
      tape(x, "Ah");
      x.stack();
      due("add", x.add(1, B, QUARTER), 0);
      due("a change", x.look(3), 2);
      x.undo();
      dueText(x, "Ah");
    });
  }

  private static void addRefused() {
    sentence("28", "NONE: none, or there are 24", () -> {
      ThinCoats x = toNineByFour();
      tape(x, "8(Ah Ah Ah)");
      x.stack();
      dueStays(x, "add to 24", () -> x.add(1, B, QUARTER), NONE);
      x.cut(0);
      due("add to 23", x.add(1, B, QUARTER), 0);
      due("look(0)", x.look(0), 24);
      // To 24 that are TOO FINE, too.
      ThinCoats y = ofIndices("8(ACA)", 9, 8, 3, 2, 8, 9);
      dueStays(y, "add to 24", () -> y.add(1, 63, ALL), NONE);
    });
    sentence("28", "-2: one can't be (as of wanted())", () -> {
      ThinCoats x = toNineByFour();
      String before = state(x);
      for (int[] e : EMPTY) due("add of empty sets", x.add(e[0], e[1], e[2]), -2);
      dueWords("what is there", state(x), before);
      ThinCoats full = of("8(ABC)");
      for (int[] e : EMPTY) due("add of empty sets to 24", full.add(e[0], e[1], e[2]), -2);
      // The highest bits that count; those beside them that don't are passed over.
      due("MARK 4, MATERIAL F, THICKNESS 6", ofIndices("", 1, 1, 3, 2, 2, 1, 4, 3, 5, 2, 5, 4).add(8, F, 64), 0);
      due("one that counts", ofIndices("", 1, 1, 3, 2, 2, 1, 4, 3, 5, 2, 5, 4).add(LEAST | 24, 64 | F, 128 | 64), 0);
    });
  }

  // ---- spare ----

  private static void spare() {
    sentence("33", "LAYERS (bits) each of which by itself can be left out without a change of BACK at any MARK of a set", () -> {
      due("of none", new ThinCoats().spare(15), 0);
      due("in front", of("A1/2 C1/2").spare(15), 1);
      due("behind", of("C1/2 B1/2").spare(15), 2);
      due("a half", of("C1/2 Fh C1/2").spare(1), 2);
      due("each by itself", of("A1/2 A1/3 C B").spare(15), 11);
      due("nothing", of("C1/2 F0/1 C1/2").spare(15), 2);
      due("24", of("8(Ah Bh Ch)").spare(5), 0xFFFFFF);
      due("the last of 24", of("7(CFC) C F Ah").spare(1) >> 23, 1);
      // Two quarters are a half together, at MARK 2 each is one by itself.
      due("at MARK 1", of("CC").spare(1), 0);
      due("at MARK 2", of("CC").spare(2), 3);
      due("at MARK 4", of("CC").spare(8), 3);
      due("at 1 and 2", of("CC").spare(3), 0);
      due("at 2 and 4", of("CC").spare(10), 3);
      due("at 2, 3 and 4", of("CC").spare(14), 0);
      // A thin one counts at each MARK by itself, and at all.
      for (int marks = 1; marks < 16; marks++) due("at " + marks, of("A C1/2 Ah").spare(marks) & 3, 1);
    });
    sentence("33", "-2 if there is no MARK in it", () -> {
      int[] none = {0, 16, 32, -16, 256, LEAST, 1 << 30};
      for (int marks : none) {
        due("spare(" + marks + ")", of("CC").spare(marks), -2);
        due("spare(" + marks + ") of none", new ThinCoats().spare(marks), -2);
        due("spare(" + (marks | 2) + ")", of("CC").spare(marks | 2), 3);
      }
      due("spare(-1)", of("Ah CC").spare(-1), 1);
    });
  }

  private static void spareTooFine() {
    sentence("33", "(bits; at none TOO FINE, with it and without)", () -> {
      // With it: at MARK 1 all is TOO FINE, at MARK 2 all are halves.
      due("with it, at MARK 1", fine().spare(1), 0);
      due("with it, at MARK 2", fine().spare(2), 15);
      due("with it, at both", fine().spare(3), 0);
      // Without: A in front changes nothing; but one of both alone makes 8503056 five times as much.
      ThinCoats x = ofIndices("A1/2 A2/1 3(EB) F", 1, 1, 1, 1, 2, 1, 4, 3, 9, 1, 4, 1);
      due("with it", x.matrix(NONE, 1, 2), 8503056);
      due("without it, at MARK 1", x.spare(1), 0);
      due("at MARK 2", x.spare(2), 511);
      due("at both", x.spare(3), 0);
      x.cut(0);
      due("without it", x.marks(2) & 1, 1);
      // Not that of another: what is TOO FINE without the first is not so without the last.
      ThinCoats y = ofIndices("A1/2 A2/1 3(EB) F Bh", 1, 1, 1, 1, 2, 1, 4, 3, 9, 1, 4, 1);
      due("the last one", y.spare(1), 1 << 9);
    });
  }
}
