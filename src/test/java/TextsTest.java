/**
 * All short texts of a few signs: faults and layers, held against the words of the document taken one by one
 * (which bytes can stand where, which numbers can be, how deep, how many), not against another reader of texts.
 */
public final class TextsTest {
  private static final int MOST_CALLS = 512;
  private static int wrong = 0;
  private static long texts = 0;
  private static ThinCoats x = new ThinCoats();
  private static int calls = 0;

  /** What stands ahead of a byte: an item may begin there, or a material, or a number of one kind or another. */
  private enum Ahead { ITEM, MATERIAL, THICK_OR_TIMES, TIMES, STROKE, THICK, NOTHING }

  private static boolean blank(char c) {
    return c == ' ' || c == '\n';
  }

  private static boolean digit(char c) {
    return c >= '0' && c <= '9';
  }

  private static Ahead behind(Ahead ahead, char c, char before, int open) {
    boolean joins = digit(c) && digit(before);
    if (blank(c)) return ahead;
    switch (ahead) {
      case THICK_OR_TIMES:
        if (c == '/') return Ahead.STROKE;
        return joins ? ahead : c == '(' ? Ahead.ITEM : Ahead.NOTHING;
      case TIMES: return joins ? ahead : c == '(' ? Ahead.ITEM : Ahead.NOTHING;
      case STROKE: return digit(c) ? Ahead.THICK : Ahead.NOTHING;
      default: break;
    }
    if (ahead == Ahead.THICK && joins) return ahead;
    if (ahead == Ahead.MATERIAL && c == 'h') return Ahead.ITEM;
    if (c >= 'A' && c <= 'F') return Ahead.MATERIAL;
    if (digit(c)) return ahead == Ahead.MATERIAL ? Ahead.THICK_OR_TIMES : Ahead.TIMES;
    return c == ')' && open > 0 ? Ahead.ITEM : Ahead.NOTHING;
  }

  /** The place of the first byte that can't stand there; beyond the end if there is none. */
  private static int placeOfOne(String text) {
    Ahead ahead = Ahead.ITEM;
    int open = 0;
    for (int i = 0; i < text.length(); i++) {
      char c = text.charAt(i);
      ahead = behind(ahead, c, i > 0 ? text.charAt(i - 1) : ' ', open);
      if (ahead == Ahead.NOTHING) return i;
      open += c == '(' ? 1 : c == ')' ? -1 : 0;
    }
    boolean whole = ahead == Ahead.ITEM || ahead == Ahead.MATERIAL || ahead == Ahead.THICK;
    return whole && open == 0 ? text.length() + 1 : text.length();
  }

  private static char next(String text, int i, int step) {
    int at = i;
    while (at >= 0 && at < text.length() && blank(text.charAt(at))) at += step;
    return at >= 0 && at < text.length() ? text.charAt(at) : ' ';
  }

  /** The place of the first number that can't be, by what stands on its sides alone. */
  private static int placeOfTwo(String text) {
    for (int i = 0; i < text.length(); i++) {
      if (!digit(text.charAt(i)) || (i > 0 && digit(text.charAt(i - 1)))) continue;
      int end = i;
      while (end < text.length() && digit(text.charAt(end))) end++;
      long value = Long.parseLong(text.substring(i, end));
      char ahead = next(text, i - 1, -1);
      char behind = next(text, end, 1);
      if (ahead == '/' && (value < 1 || value > 6)) return i;
      if (ahead != '/' && behind == '(' && (value < 1 || value > 9)) return i;
      if (behind == '/' && value > 6) return i;
    }
    return text.length() + 1;
  }

  private static int placeOfThree(String text) {
    int open = 0;
    for (int i = 0; i < text.length(); i++) {
      open += text.charAt(i) == '(' ? 1 : text.charAt(i) == ')' ? -1 : 0;
      if (open > 4) return i;
    }
    return text.length() + 1;
  }

  /** A text without the other faults, unfolded by its innermost repetition first; blanks go. */
  private static String unfolded(String text) {
    String t = text.replaceAll("(?<=\\d)\\s+(?=\\d)", ";").replaceAll("\\s", "").replaceAll("(/\\d+)(?=\\d+\\()", "$1;");
    while (t.indexOf(')') >= 0) {
      int close = t.indexOf(')');
      int open = t.lastIndexOf('(', close);
      int from = open;
      while (from > 0 && digit(t.charAt(from - 1))) from--;
      int times = Integer.parseInt(t.substring(from, open));
      t = t.substring(0, from) + (t.substring(open + 1, close) + ";").repeat(times) + t.substring(close + 1);
    }
    return t.replace(";", "");
  }

  private static int layersOf(String unfolded) {
    return (int) unfolded.chars().filter(c -> c >= 'A' && c <= 'F').count();
  }

  /** The place of the item, not within others, by which there are more than 24 layers. */
  private static int placeOfFour(String text) {
    int open = 0;
    int item = 0;
    boolean within = false;
    for (int i = 0; i < text.length(); i++) {
      char c = text.charAt(i);
      boolean begins = (c >= 'A' && c <= 'F') || (digit(c) && startsRepetition(text, i));
      if (open == 0 && begins && !within) item = i;
      within = digit(c);
      open += c == '(' ? 1 : c == ')' ? -1 : 0;
      boolean ends = open == 0 && c != '(' && (c == ')' || (c >= 'A' && c <= 'F'));
      if (ends && layersOf(unfolded(text.substring(0, i + 1))) > 24) return item;
    }
    return text.length() + 1;
  }

  private static boolean startsRepetition(String text, int i) {
    int end = i;
    while (end < text.length() && digit(text.charAt(end))) end++;
    return next(text, end, 1) == '(';
  }

  private static void due(String text, String what, long got, long want) {
    if (got == want) return;
    wrong++;
    if (wrong < 40) System.out.println("'" + text + "': " + what + " is " + got + ", due is " + want);
  }

  private static void feed(String text) {
    if (calls + 12 + text.length() > MOST_CALLS) {
      x = new ThinCoats();
      calls = 0;
    }
    x.end(0);
    calls++;
    for (int i = 0; i < text.length(); i += 20) {
      int[] n = new int[5];
      for (int k = 0; k < 20; k++) n[k / 4] = n[k / 4] << 8 | (i + k < text.length() ? text.charAt(i + k) : ' ');
      x.feed(n[0], n[1], n[2], n[3], n[4]);
      calls++;
    }
    x.end(text.length());
    calls++;
  }

  private static void check(String text) {
    texts++;
    int fault = 1;
    int place = placeOfOne(text);
    int two = placeOfTwo(text);
    if (two < place) {
      fault = 2;
      place = two;
    }
    int three = placeOfThree(text);
    if (three < place) {
      fault = 3;
      place = three;
    }
    if (place > text.length()) {
      fault = 4;
      place = placeOfFour(text);
    }
    if (place > text.length()) {
      fault = 0;
      place = ThinCoats.NONE;
    }
    feed(text);
    due(text, "stack()", x.stack(), fault == 0 ? layersOf(unfolded(text)) : ThinCoats.NONE);
    due(text, "fault(0)", x.fault(0), fault);
    due(text, "fault(1)", x.fault(1), place);
    calls += 3;
  }

  /** All rows of up to so many of these pieces. */
  private static void all(String[] pieces, int most, String ahead) {
    check(ahead);
    if (most == 0) return;
    for (String p : pieces) all(pieces, most - 1, ahead + p);
  }

  public static void main(String[] args) {
    int more = args.length > 0 ? Integer.parseInt(args[0]) : 0;
    all(new String[] {"A", "2", "7", "0", "(", ")", "/", "h", " ", "x"}, 5 + more, "");
    all(new String[] {"F", "5(", "9 (", ")", "B1/2\n"}, 7 + more, "");
    all(new String[] {"2(", ")", "C3(D", "24(", "/"}, 6 + more, "5(");
    all(new String[] {"2(", ")", "A", "0(", "("}, 5 + more, "1(1(1(");
    System.out.println(wrong == 0 ? "all " + texts + " texts are as due" : wrong + " answers are not as due");
    if (wrong != 0) System.exit(1);
  }
}
