import java.util.Random;

/** Runs of random calls (the same ones each time), held against the model of the document. */
public final class ModelTest {
  private static int wrong = 0;
  private final Random dice;
  private final int run;
  private final ThinCoats x = new ThinCoats();
  private final Model y = new Model();
  private int budget = 60_000;

  private ModelTest(int run) {
    this.run = run;
    this.dice = new Random(run * 7919L + 17);
  }

  private void same(String call, long got, long want) {
    if (got != want) {
      wrong++;
      if (wrong < 40) System.out.println("run " + run + ": " + call + " answered " + got + ", due is " + want);
    }
  }

  private static int bit(boolean b) {
    return b ? 1 : 0;
  }

  /** Mostly low .. high, at times a little or far outside. */
  private int num(int low, int high) {
    int r = dice.nextInt(40);
    if (r == 0) return low - 1 - dice.nextInt(2);
    if (r == 1) return high + 1 + dice.nextInt(2);
    if (r == 2 && dice.nextInt(4) == 0) return dice.nextInt();
    return low + dice.nextInt(high - low + 1);
  }

  private int set(int bits) {
    int r = dice.nextInt(30);
    if (r == 0) return 0;
    if (r == 1) return dice.nextInt();
    if (r < 8) return 1 << dice.nextInt(bits);
    return 1 + dice.nextInt((1 << bits) - 1);
  }

  private void blank(StringBuilder text) {
    if (dice.nextInt(6) == 0) text.append(dice.nextBoolean() ? ' ' : '\n');
  }

  private void item(StringBuilder text, int depth) {
    if (depth < 6 && dice.nextInt(5) == 0) {
      text.append(dice.nextInt(8) == 0 ? dice.nextInt(12) : 1 + dice.nextInt(3));
      blank(text);
      text.append('(');
      int n = dice.nextInt(3);
      for (int i = 0; i < n; i++) item(text, depth + 1);
      blank(text);
      text.append(')');
    } else {
      text.append((char) ('A' + dice.nextInt(6)));
      blank(text);
      int r = dice.nextInt(6);
      if (r == 0) text.append('h');
      if (r == 1 || r == 2) {
        text.append(dice.nextInt(20) == 0 ? dice.nextInt(12) : dice.nextInt(7));
        blank(text);
        text.append('/');
        blank(text);
        text.append(dice.nextInt(20) == 0 ? dice.nextInt(12) : 1 + dice.nextInt(6));
        if (dice.nextInt(3) > 0) text.append(' ');
      }
    }
    blank(text);
  }

  private String text() {
    StringBuilder text = new StringBuilder();
    if (dice.nextInt(8) == 0) {
      String soup = "ABFG0123790()(/h \n";
      int n = dice.nextInt(12);
      for (int i = 0; i < n; i++) text.append(soup.charAt(dice.nextInt(soup.length())));
    } else {
      int n = dice.nextInt(dice.nextInt(10) == 0 ? 30 : 6);
      for (int i = 0; i < n; i++) item(text, 0);
    }
    if (dice.nextInt(6) == 0 && text.length() > 0) {
      String bytes = "ABG019()/h \t";
      text.setCharAt(dice.nextInt(text.length()), bytes.charAt(dice.nextInt(bytes.length())));
    }
    return text.length() > 200 ? text.substring(0, 200) : text.toString();
  }

  private void feedText(String text) {
    same("end(0)", bit(x.end(0)), bit(y.end(0)));
    for (int i = 0; i < text.length(); i += 20) {
      int[] n = new int[5];
      for (int k = 0; k < 20; k++) {
        int b = i + k < text.length() ? text.charAt(i + k) : 'x';
        n[k / 4] = n[k / 4] << 8 | b;
      }
      same("feed", x.feed(n[0], n[1], n[2], n[3], n[4]), y.feed(n));
    }
    same("end", bit(x.end(text.length())), bit(y.end(text.length())));
    same("stack() of '" + text + "'", x.stack(), y.stack());
    same("fault(0) of '" + text + "'", x.fault(0), y.fault(0));
    same("fault(1) of '" + text + "'", x.fault(1), y.fault(1));
  }

  private void shown() {
    int n = y.show();
    same("show()", x.show(), n);
    for (int i = -1; i <= n; i++) same("out(" + i + ")", x.out(i), y.out(i));
  }

  private void change() {
    int a, b, c, d;
    switch (dice.nextInt(13)) {
      case 0: feedText(text()); break;
      case 1:
        a = num(0, 5); b = num(1, 9); c = num(1, 9);
        same("index " + a + " " + b + " " + c, bit(x.index(a, b, c)), bit(y.index(a, b, c)));
        break;
      case 2:
        a = num(0, 5); b = num(0, 5);
        same("between", bit(x.between(a, b)), bit(y.between(a, b)));
        break;
      case 3: case 4: case 5:
        a = num(0, y.look(0)); b = num(0, 5); c = num(0, 6); d = num(0, 6);
        if (dice.nextInt(6) == 0) { c = 1; d = 0; }
        same("put", x.put(a, b, c, d), y.put(a, b, c, d));
        break;
      case 6: a = num(0, y.look(0)); same("cut", x.cut(a), y.cut(a)); break;
      case 7: same("turn", bit(x.turn()), bit(y.turn())); break;
      case 8: same("undo", bit(x.undo()), bit(y.undo())); break;
      case 9:
        a = num(0, y.look(0)); b = num(1, 4);
        same("tune " + a + " " + b, x.tune(a, b), y.tune(a, b));
        break;
      case 10: for (a = -1; a <= y.look(0); a++) same("merge " + a, x.merge(a), y.merge(a)); break;
      case 11: adding(); break;
      default: wanting(); break;
    }
  }

  private void adding() {
    int a = set(4);
    int b = set(6);
    int c = set(7);
    int cost = (y.look(0) + 2) * (y.look(0) + 2) * Integer.bitCount(b & 63) * Integer.bitCount(c & 127);
    if (cost > budget) return;
    budget -= cost;
    same("add " + a + " " + b + " " + c, x.add(a, b, c), y.add(a, b, c));
  }

  private void wanting() {
    int a = set(4);
    int b = set(6);
    int c = set(7);
    int n = num(1, 3);
    double cost = Math.pow(Integer.bitCount(b & 63) * Integer.bitCount(c & 127), n < 1 || n > 3 ? 0 : n);
    if (cost > budget) return;
    budget -= (int) cost;
    same("ways " + a + " " + b + " " + c + " " + n, x.ways(a, b, c, n), y.ways(a, b, c, n));
    if (dice.nextBoolean()) same("wanted " + a + " " + b + " " + c + " " + n, x.wanted(a, b, c, n), y.wanted(a, b, c, n));
  }

  private void ask() {
    int mark = num(1, 4);
    int n = dice.nextBoolean() ? -1 : num(0, y.look(0));
    int s = num(2, 12);
    for (int what = -1; what <= 9; what++) {
      same("look " + what, x.look(what), y.look(what));
      same("fault " + what, x.fault(what), y.fault(what));
      same("layer " + n + " " + what, x.layer(n, what), y.layer(n, what));
      same("material " + mark + " " + what, x.material(mark, what), y.material(mark, what));
      same("period " + what, x.period(what), y.period(what));
    }
    for (int what = -1; what <= 4; what++) {
      same("matrix " + n + " " + mark + " " + what, x.matrix(n, mark, what), y.matrix(n, mark, what));
      same("light " + n + " " + mark + " " + what, x.light(n, mark, what), y.light(n, mark, what));
      same("admittance " + n + " " + mark + " " + what, x.admittance(n, mark, what), y.admittance(n, mark, what));
      same("marks " + what, x.marks(what), y.marks(what));
      same("extreme " + what, x.extreme(what), y.extreme(what));
    }
    same("share " + mark, x.share(mark), y.share(mark));
    same("through " + mark, x.through(mark), y.through(mark));
    int above = num(0, 1000);
    int below = num(1, 1000);
    same("below", x.below(mark, above, below), y.below(mark, above, below));
    same("tender " + mark + " " + s, x.tender(mark, s), y.tender(mark, s));
    int marks = set(4);
    same("spare " + marks, x.spare(marks), y.spare(marks));
    slips(mark, s);
  }

  private void slips(int mark, int s) {
    if (y.look(0) > 5 && y.look(0) <= 8) {
      if (budget < 2000) return;
      budget -= 2000;
    }
    for (int what = -1; what <= 3; what++) {
      same("worst " + mark + " " + s + " " + what, x.worst(mark, s, what), y.worst(mark, s, what));
      int bits = num(0, (1 << Math.min(9, y.look(0))) - 1);
      same("corner " + mark + " " + s + " " + bits + " " + what, x.corner(mark, s, bits, what), y.corner(mark, s, bits, what));
    }
  }

  private void go() {
    for (int i = 0; i < 40; i++) {
      change();
      if (dice.nextInt(3) == 0) ask();
      if (dice.nextInt(4) == 0) shown();
    }
    shown();
  }

  public static void main(String[] args) {
    int runs = args.length > 0 ? Integer.parseInt(args[0]) : 120;
    for (int run = 1; run <= runs; run++) new ModelTest(run).go();
    System.out.println(wrong == 0 ? "all answers agree with the model" : wrong + " answers do not agree");
    if (wrong != 0) System.exit(1);
  }
}
