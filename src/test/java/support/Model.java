import java.math.BigInteger;
import java.util.ArrayDeque;
import java.util.ArrayList;
import java.util.Arrays;
import java.util.Collections;
import java.util.List;

/**
 * The document once more, written with BigInteger and lists, slow and without regard to room:
 * what the class answers is held against what this answers.
 */
final class Model {
  private static final BigInteger LIMIT = BigInteger.valueOf(10_000_000);
  private static final int[][] THICK = {{1, 1}, {1, 2}, {2, 1}, {1, 3}, {3, 1}, {2, 3}, {3, 2}};

  private record Layer(int material, int p, int q) { }

  private record Change(List<Layer> before, boolean turned) { }

  private static final class Fault extends RuntimeException {
    final int kind;
    final int place;

    Fault(int kind, int place) {
      this.kind = kind;
      this.place = place;
    }
  }

  /** A fraction in lowest terms, more than 0 below. */
  private record Ratio(BigInteger above, BigInteger below) implements Comparable<Ratio> {
    static Ratio of(BigInteger a, BigInteger b) {
      BigInteger g = a.gcd(b);
      return new Ratio(a.divide(g), b.divide(g));
    }

    @Override public int compareTo(Ratio o) {
      return above.multiply(o.below).compareTo(o.above.multiply(below));
    }
  }

  private final ArrayList<Integer> tape = new ArrayList<>();
  private List<Layer> stack = new ArrayList<>();
  private final ArrayDeque<Change> history = new ArrayDeque<>();
  private final int[][] index = {{1, 1}, {3, 2}, {2, 1}, {4, 3}, {5, 2}, {3, 1}};
  private int from = 0;
  private int ground = 1;
  private int fault = 0;
  private int place = -1;
  private String shown = "";

  int feed(int... numbers) {
    if (tape.size() + 20 > 200) return -1;
    for (int n : numbers) {
      tape.add(n >>> 24);
      tape.add(n >>> 16 & 255);
      tape.add(n >>> 8 & 255);
      tape.add(n & 255);
    }
    return tape.size();
  }

  boolean end(int n) {
    if (n < 0 || n > tape.size()) return false;
    while (tape.size() > n) tape.remove(tape.size() - 1);
    return true;
  }

  // ---- the text ----

  private record Token(char kind, int value, int place) { }

  private static List<Token> tokens(List<Integer> bytes) {
    List<Token> all = new ArrayList<>();
    int i = 0;
    while (i < bytes.size()) {
      int b = bytes.get(i);
      if (b == 32 || b == 10) {
        i++;
      } else if (b >= '0' && b <= '9') {
        int j = i;
        BigInteger value = BigInteger.ZERO;
        while (j < bytes.size() && bytes.get(j) >= '0' && bytes.get(j) <= '9') {
          value = value.multiply(BigInteger.TEN).add(BigInteger.valueOf(bytes.get(j) - '0'));
          j++;
        }
        all.add(new Token('n', value.min(BigInteger.valueOf(1_000_000)).intValue(), i));
        i = j;
      } else {
        all.add(new Token((char) b, b, i));
        i++;
      }
    }
    all.add(new Token((char) 1000, 0, bytes.size()));
    return all;
  }

  private final class Parser {
    final List<Token> tokens;
    int at = 0;
    int tooMany = -1;

    Parser(List<Integer> bytes) {
      tokens = tokens(bytes);
    }

    Token now() {
      return tokens.get(at);
    }

    List<Layer> items(int depth) {
      List<Layer> all = new ArrayList<>();
      while (true) {
        Token t = now();
        if (t.kind == 1000 && depth == 0) return all;
        if (t.kind == ')' && depth > 0) return all;
        all.addAll(item(depth));
        if (depth == 0 && all.size() > 24 && tooMany < 0) tooMany = t.place;
      }
    }

    List<Layer> item(int depth) {
      Token t = now();
      if (t.kind >= 'A' && t.kind <= 'F') {
        at++;
        return List.of(layer(t.kind - 'A'));
      }
      if (t.kind != 'n') throw new Fault(1, t.place);
      at++;
      Token next = now();
      if (next.kind == '/' && t.value > 6) throw new Fault(2, t.place);
      if (next.kind != '(') throw new Fault(1, next.place);
      if (t.value < 1 || t.value > 9) throw new Fault(2, t.place);
      if (depth == 4) throw new Fault(3, next.place);
      at++;
      List<Layer> inner = items(depth + 1);
      if (now().kind != ')') throw new Fault(1, now().place);
      at++;
      List<Layer> all = new ArrayList<>();
      for (int k = 0; k < t.value; k++) all.addAll(inner);
      return all;
    }

    Layer layer(int material) {
      Token t = now();
      if (t.kind == 'h') {
        at++;
        return new Layer(material, 1, 0);
      }
      if (t.kind != 'n' || tokens.get(at + 1).kind == '(') return new Layer(material, 1, 1);
      Token slash = tokens.get(at + 1);
      if (slash.kind != '/') throw new Fault(1, slash.place);
      if (t.value > 6) throw new Fault(2, t.place);
      Token last = tokens.get(at + 2);
      if (last.kind != 'n') throw new Fault(1, last.place);
      if (last.value < 1 || last.value > 6) throw new Fault(2, last.place);
      at += 3;
      return lowest(material, t.value, last.value);
    }
  }

  private static Layer lowest(int material, int p, int q) {
    int g = BigInteger.valueOf(p).gcd(BigInteger.valueOf(q)).intValue();
    return new Layer(material, p / g, q / g);
  }

  int stack() {
    fault = 0;
    place = -1;
    try {
      Parser parser = new Parser(tape);
      List<Layer> all = parser.items(0);
      if (parser.tooMany >= 0) throw new Fault(4, parser.tooMany);
      change(all, false);
      tape.clear();
      return stack.size();
    } catch (Fault f) {
      fault = f.kind;
      place = f.place;
      return -1;
    }
  }

  int fault(int what) {
    return what == 0 ? fault : what == 1 ? place : -1;
  }

  private void change(List<Layer> next, boolean turned) {
    history.addLast(new Change(stack, turned));
    if (history.size() > 10) history.removeFirst();
    stack = new ArrayList<>(next);
  }

  // ---- materials and layers ----

  private static boolean isMaterial(int m) {
    return m >= 0 && m <= 5;
  }

  private static boolean isMark(int k) {
    return k >= 1 && k <= 4;
  }

  boolean index(int m, int u, int v) {
    if (!isMaterial(m) || u < 1 || u > 9 || v < 1 || v > 9) return false;
    int g = BigInteger.valueOf(u).gcd(BigInteger.valueOf(v)).intValue();
    int[] next = {u / g, v / g};
    if (Arrays.equals(next, index[m])) return false;
    index[m] = next;
    return true;
  }

  boolean between(int f, int g) {
    if (!isMaterial(f) || !isMaterial(g) || f == from && g == ground) return false;
    from = f;
    ground = g;
    return true;
  }

  int material(int m, int what) {
    if (!isMaterial(m) || what < 0 || what > 4) return -1;
    if (what < 2) return index[m][what];
    if (what == 2) return from == m ? 1 : 0;
    if (what == 3) return ground == m ? 1 : 0;
    return (int) stack.stream().filter(l -> l.material == m).count();
  }

  /** Q, then P of the angle so many times. */
  private static BigInteger[] atMark(long p, long q, int mark) {
    BigInteger re = BigInteger.ONE;
    BigInteger im = BigInteger.ZERO;
    for (int k = 0; k < mark; k++) {
      BigInteger r = re.multiply(BigInteger.valueOf(q)).subtract(im.multiply(BigInteger.valueOf(p)));
      im = re.multiply(BigInteger.valueOf(p)).add(im.multiply(BigInteger.valueOf(q)));
      re = r;
    }
    BigInteger g = re.gcd(im);
    int sign = re.signum() != 0 ? re.signum() : im.signum();
    if (sign < 0) g = g.negate();
    return new BigInteger[] {re.divide(g), im.divide(g)};
  }

  int layer(int i, int what) {
    if (i == -1) return stack.size();
    if (i < 0 || i >= stack.size() || what < 0 || what > 8) return -10000;
    Layer l = stack.get(i);
    switch (what) {
      case 0: return l.material;
      case 1: return l.p;
      case 2: return l.q;
      default:
        BigInteger[] qp = atMark(l.p, l.q, what <= 4 ? 2 : what <= 6 ? 3 : 4);
        return (what % 2 == 1 ? qp[1] : qp[0]).intValueExact();
    }
  }

  private static boolean isTangent(int p, int q) {
    return p == 1 && q == 0 || p >= 0 && p <= 6 && q >= 1 && q <= 6;
  }

  private static <T> List<T> with(List<T> list, int i, T x) {
    List<T> all = new ArrayList<>(list);
    all.add(i, x);
    return all;
  }

  private static <T> List<T> without(List<T> list, int i) {
    List<T> all = new ArrayList<>(list);
    all.remove(i);
    return all;
  }

  private static <T> List<T> changed(List<T> list, int i, T x) {
    List<T> all = new ArrayList<>(list);
    all.set(i, x);
    return all;
  }

  int put(int i, int m, int p, int q) {
    if (i < 0 || i > stack.size() || !isMaterial(m) || !isTangent(p, q) || stack.size() == 24) return -1;
    change(with(stack, i, lowest(m, p, q)), false);
    return stack.size();
  }

  int cut(int i) {
    if (i < 0 || i >= stack.size()) return -1;
    change(without(stack, i), false);
    return stack.size();
  }

  private List<Layer> reversed() {
    List<Layer> all = new ArrayList<>(stack);
    Collections.reverse(all);
    return all;
  }

  private void swap() {
    int f = from;
    from = ground;
    ground = f;
  }

  boolean turn() {
    if (from == ground && reversed().equals(stack)) return false;
    change(reversed(), true);
    swap();
    return true;
  }

  boolean undo() {
    if (history.isEmpty()) return false;
    Change c = history.removeLast();
    stack = c.before;
    if (c.turned) swap();
    return true;
  }

  // ---- light ----

  /** A layer with any tangent. */
  private record Any(int material, long p, long q) { }

  private static List<Any> any(List<Layer> layers) {
    List<Any> all = new ArrayList<>();
    for (Layer l : layers) all.add(new Any(l.material, l.p, l.q));
    return all;
  }

  private static BigInteger big(long n) {
    return BigInteger.valueOf(n);
  }

  /** Without common divisor; null if too fine. */
  private static BigInteger[] settled(BigInteger... m) {
    BigInteger g = m[0].gcd(m[1]).gcd(m[2]).gcd(m[3]);
    BigInteger[] r = new BigInteger[4];
    for (int i = 0; i < 4; i++) {
      r[i] = m[i].divide(g);
      if (r[i].abs().compareTo(LIMIT) > 0) return null;
    }
    return r;
  }

  private BigInteger[] own(Any l, int mark) {
    BigInteger[] qp = atMark(l.p, l.q, mark);
    BigInteger u = big(index[l.material][0]);
    BigInteger v = big(index[l.material][1]);
    BigInteger a = u.multiply(v).multiply(qp[0].pow(2).subtract(qp[1].pow(2)));
    BigInteger pq = qp[0].multiply(qp[1]).shiftLeft(1);
    return settled(a, v.pow(2).multiply(pq), u.pow(2).multiply(pq), a);
  }

  private BigInteger[] row(List<Any> layers, int mark) {
    BigInteger[] m = {BigInteger.ONE, BigInteger.ZERO, BigInteger.ZERO, BigInteger.ONE};
    for (Any l : layers) {
      BigInteger[] o = own(l, mark);
      if (o == null) return null;
      m = settled(m[0].multiply(o[0]).subtract(m[1].multiply(o[2])),
          m[0].multiply(o[1]).add(m[1].multiply(o[3])),
          m[2].multiply(o[0]).add(m[3].multiply(o[2])),
          m[3].multiply(o[3]).subtract(m[2].multiply(o[1])));
      if (m == null) return null;
    }
    return m;
  }

  private BigInteger squares(BigInteger[] m, int sign) {
    BigInteger u = big(index[from][0]);
    BigInteger v = big(index[from][1]);
    BigInteger x = big(index[ground][0]);
    BigInteger y = big(index[ground][1]);
    BigInteger one = u.multiply(y).multiply(m[0]).add(v.multiply(x).multiply(m[3]).multiply(big(sign)));
    BigInteger two = u.multiply(x).multiply(m[1]).add(v.multiply(y).multiply(m[2]).multiply(big(sign)));
    return one.pow(2).add(two.pow(2));
  }

  private Ratio back(List<Any> layers, int mark) {
    BigInteger[] m = row(layers, mark);
    return m == null ? null : Ratio.of(squares(m, -1), squares(m, 1));
  }

  private Ratio through(List<Any> layers, int mark) {
    BigInteger[] m = row(layers, mark);
    if (m == null) return null;
    BigInteger sides = big(4L * index[from][0] * index[from][1] * index[ground][0] * index[ground][1]);
    BigInteger det = m[0].multiply(m[3]).add(m[1].multiply(m[2]));
    return Ratio.of(sides.multiply(det), squares(m, 1));
  }

  private List<Any> first(int n) {
    return any(stack.subList(0, n == -1 ? stack.size() : n));
  }

  private boolean isFirst(int n) {
    return n >= -1 && n <= stack.size();
  }

  int matrix(int n, int mark, int i) {
    if (!isFirst(n) || !isMark(mark) || i < 0 || i > 3) return -20000001;
    BigInteger[] m = row(first(n), mark);
    return m == null ? -20000001 : m[i].intValueExact();
  }

  long light(int n, int mark, int what) {
    if (!isFirst(n) || !isMark(mark) || what < 0 || what > 3) return -2;
    Ratio r = what < 2 ? back(first(n), mark) : through(first(n), mark);
    return r == null ? -1 : (what % 2 == 0 ? r.above : r.below).longValueExact();
  }

  int share(int mark) {
    if (!isMark(mark)) return -2;
    Ratio r = back(first(-1), mark);
    return r == null ? -1
        : Float.floatToIntBits((float) r.above.longValueExact() / (float) r.below.longValueExact());
  }

  long through(int mark) {
    if (!isMark(mark)) return -2;
    Ratio r = through(first(-1), mark);
    return r == null ? -1
        : Double.doubleToLongBits((double) r.above.longValueExact() / (double) r.below.longValueExact());
  }

  long admittance(int n, int mark, int what) {
    if (!isFirst(n) || !isMark(mark) || what < 0 || what > 3) return Long.MIN_VALUE;
    BigInteger[] m = row(first(n), mark);
    if (m == null) return Long.MIN_VALUE;
    BigInteger x = big(index[ground][0]);
    BigInteger y = big(index[ground][1]);
    BigInteger ya = y.multiply(m[0]);
    BigInteger xb = x.multiply(m[1]);
    BigInteger xd = x.multiply(m[3]);
    BigInteger yc = y.multiply(m[2]);
    BigInteger above = what < 2 ? ya.multiply(xd).add(xb.multiply(yc)) : ya.multiply(yc).subtract(xb.multiply(xd));
    Ratio r = Ratio.of(above, ya.pow(2).add(xb.pow(2)));
    return (what % 2 == 0 ? r.above : r.below).longValueExact();
  }

  int marks(int what) {
    if (what < 0 || what > 2) return -1;
    int bits = 0;
    for (int mark = 1; mark <= 4; mark++) {
      Ratio r = what == 1 ? through(first(-1), mark) : back(first(-1), mark);
      if (what == 2 ? r == null : r != null && r.above.signum() == 0) bits |= 1 << mark - 1;
    }
    return bits;
  }

  int extreme(int what) {
    if (what < 0 || what > 1) return -1;
    int found = -1;
    Ratio best = null;
    for (int mark = 1; mark <= 4; mark++) {
      Ratio r = back(first(-1), mark);
      if (r == null) continue;
      if (best == null || (what == 0 ? r.compareTo(best) < 0 : r.compareTo(best) > 0)) {
        best = r;
        found = mark;
      }
    }
    return found;
  }

  int below(int mark, int above, int below) {
    if (!isMark(mark) || above < 0 || above > 1000 || below < 1 || below > 1000) return -1;
    int n = 0;
    for (int k = 0; k <= stack.size(); k++) {
      Ratio r = back(first(k), mark);
      if (r != null && r.compareTo(new Ratio(big(above), big(below))) <= 0) n++;
    }
    return n;
  }

  // ---- slips ----

  private static Any slipped(Layer l, int s, boolean greater) {
    if (l.q == 0) return new Any(l.material, 1, 0);
    long p = (long) l.p * s + (greater ? l.q : -l.q);
    if (p < 0) p = 0;
    Ratio r = Ratio.of(big(p), big((long) l.q * s));
    return new Any(l.material, r.above.longValue(), r.below.longValue());
  }

  private Ratio cornerBack(int mark, int s, int bits) {
    List<Any> all = new ArrayList<>();
    for (int i = 0; i < stack.size(); i++) all.add(slipped(stack.get(i), s, (bits >> i & 1) == 1));
    return back(all, mark);
  }

  private boolean canSlip(int mark, int s) {
    return isMark(mark) && s >= 2 && s <= 12;
  }

  long worst(int mark, int s, int what) {
    if (!canSlip(mark, s) || stack.size() > 8 || what < 0 || what > 2) return -2;
    Ratio best = null;
    int found = -1;
    for (int bits = 0; bits < 1 << stack.size(); bits++) {
      Ratio r = cornerBack(mark, s, bits);
      if (r == null) return -1;
      if (best == null || r.compareTo(best) > 0) {
        best = r;
        found = bits;
      }
    }
    return what == 0 ? found : (what == 1 ? best.above : best.below).longValueExact();
  }

  long corner(int mark, int s, int bits, int what) {
    if (!canSlip(mark, s) || stack.size() > 8 || what < 0 || what > 1) return -2;
    if (bits < 0 || bits >= 1 << stack.size()) return -2;
    Ratio r = cornerBack(mark, s, bits);
    return r == null ? -1 : (what == 0 ? r.above : r.below).longValueExact();
  }

  int tender(int mark, int s) {
    if (!canSlip(mark, s)) return -2;
    List<Any> all = any(stack);
    Ratio is = back(all, mark);
    if (is == null) return -1;
    Ratio most = Ratio.of(BigInteger.ZERO, BigInteger.ONE);
    int found = -1;
    for (int i = 0; i < stack.size(); i++) {
      for (boolean greater : new boolean[] {false, true}) {
        Ratio r = back(changed(all, i, slipped(stack.get(i), s, greater)), mark);
        if (r == null) return -1;
        Ratio more = Ratio.of(r.above.multiply(is.below).subtract(is.above.multiply(r.below)),
            r.below.multiply(is.below));
        if (more.compareTo(most) > 0) {
          most = more;
          found = i;
        }
      }
    }
    return found;
  }

  // ---- what is sought ----

  private static boolean setsCan(int marks, int materials, int thicknesses) {
    return (marks & 15) != 0 && (materials & 63) != 0 && (thicknesses & 127) != 0;
  }

  private static List<Layer> choices(int materials, int thicknesses) {
    List<Layer> all = new ArrayList<>();
    for (int m = 0; m < 6; m++) {
      for (int t = 0; t < 7; t++) {
        if ((materials >> m & 1) == 1 && (thicknesses >> t & 1) == 1) all.add(new Layer(m, THICK[t][0], THICK[t][1]));
      }
    }
    return all;
  }

  private boolean clear(List<Layer> layers, int marks) {
    for (int mark = 1; mark <= 4; mark++) {
      if ((marks >> mark - 1 & 1) == 0) continue;
      Ratio r = back(any(layers), mark);
      if (r == null || r.above.signum() != 0) return false;
    }
    return true;
  }

  private void rows(List<Layer> ahead, List<Layer> choices, int n, List<List<Layer>> all) {
    if (n == 0) {
      all.add(ahead);
      return;
    }
    for (Layer l : choices) {
      if (!ahead.isEmpty() && ahead.get(ahead.size() - 1).material == l.material) continue;
      rows(with(ahead, ahead.size(), l), choices, n - 1, all);
    }
  }

  private List<List<Layer>> found(int marks, int materials, int thicknesses, int n) {
    List<List<Layer>> all = new ArrayList<>();
    rows(List.of(), choices(materials, thicknesses), n, all);
    all.removeIf(row -> !clear(row, marks));
    return all;
  }

  int wanted(int marks, int materials, int thicknesses, int n) {
    if (!setsCan(marks, materials, thicknesses) || n < 1 || n > 3) return -2;
    for (int k = 1; k <= n; k++) {
      List<List<Layer>> all = found(marks, materials, thicknesses, k);
      if (!all.isEmpty()) {
        change(all.get(0), false);
        return k;
      }
    }
    return -1;
  }

  int ways(int marks, int materials, int thicknesses, int n) {
    if (!setsCan(marks, materials, thicknesses) || n < 1 || n > 3) return -2;
    return found(marks, materials, thicknesses, n).size();
  }

  int tune(int i, int mark) {
    if (i < 0 || i >= stack.size() || !isMark(mark)) return -2;
    Ratio best = null;
    int found = -1;
    for (int t = 0; t < 7; t++) {
      Layer l = new Layer(stack.get(i).material, THICK[t][0], THICK[t][1]);
      Ratio r = back(any(changed(stack, i, l)), mark);
      if (r != null && (best == null || r.compareTo(best) < 0)) {
        best = r;
        found = t;
      }
    }
    if (found >= 0) {
      change(changed(stack, i, new Layer(stack.get(i).material, THICK[found][0], THICK[found][1])), false);
    }
    return found;
  }

  /** The greatest at the marks, null if one is too fine. */
  private Ratio greatest(List<Layer> layers, int marks) {
    Ratio most = null;
    for (int mark = 1; mark <= 4; mark++) {
      if ((marks >> mark - 1 & 1) == 0) continue;
      Ratio r = back(any(layers), mark);
      if (r == null) return null;
      if (most == null || r.compareTo(most) > 0) most = r;
    }
    return most;
  }

  int add(int marks, int materials, int thicknesses) {
    if (!setsCan(marks, materials, thicknesses)) return -2;
    if (stack.size() == 24) return -1;
    Ratio least = null;
    int at = -1;
    Layer what = null;
    for (int i = 0; i <= stack.size(); i++) {
      for (Layer l : choices(materials, thicknesses)) {
        Ratio r = greatest(with(stack, i, l), marks);
        if (r != null && (least == null || r.compareTo(least) < 0)) {
          least = r;
          at = i;
          what = l;
        }
      }
    }
    if (at < 0) return -1;
    Ratio is = greatest(stack, marks);
    if (is != null && least.compareTo(is) >= 0) return -1;
    change(with(stack, at, what), false);
    return at;
  }

  int merge(int i) {
    if (i < 0 || i + 1 >= stack.size()) return -1;
    Layer a = stack.get(i);
    Layer b = stack.get(i + 1);
    if (a.material != b.material) return -1;
    int p = a.p * b.q + b.p * a.q;
    int q = a.q * b.q - a.p * b.p;
    if (q < 0) {
      p = -p;
      q = -q;
    }
    int g = BigInteger.valueOf(p).gcd(BigInteger.valueOf(q)).intValue();
    if (!isTangent(p / g, q / g)) return -1;
    change(changed(without(stack, i), i, new Layer(a.material, p / g, q / g)), false);
    return stack.size();
  }

  int period(int what) {
    if (what < 0 || what > 1) return -1;
    for (int n = 1; n <= stack.size(); n++) {
      if (stack.size() % n != 0) continue;
      List<Layer> all = new ArrayList<>();
      for (int k = 0; k < stack.size() / n; k++) all.addAll(stack.subList(0, n));
      if (all.equals(stack)) return what == 0 ? n : stack.size() / n;
    }
    return 0;
  }

  int show() {
    StringBuilder text = new StringBuilder();
    for (Layer l : stack) {
      text.append((char) ('A' + l.material));
      if (l.q == 0) text.append('h');
      else if (l.p != l.q) text.append(l.p).append('/').append(l.q);
    }
    shown = text.toString();
    return shown.length();
  }

  int out(int i) {
    return i < 0 || i >= shown.length() ? -1 : shown.charAt(i);
  }

  int spare(int marks) {
    if ((marks & 15) == 0) return -2;
    int bits = 0;
    for (int i = 0; i < stack.size(); i++) {
      boolean can = true;
      for (int mark = 1; mark <= 4; mark++) {
        if ((marks >> mark - 1 & 1) == 0) continue;
        Ratio is = back(any(stack), mark);
        Ratio less = back(any(without(stack, i)), mark);
        can &= is != null && is.equals(less);
      }
      if (can) bits |= 1 << i;
    }
    return bits;
  }

  int look(int what) {
    switch (what) {
      case 0: return stack.size();
      case 1: return stack.stream().mapToInt(l -> 1 << l.material).reduce(0, (a, b) -> a | b);
      case 2: return reversed().equals(stack) ? 1 : 0;
      case 3: return history.size();
      case 4: return tape.size();
      case 5: return (int) stack.stream().filter(l -> l.p == 1 && l.q == 0).count();
      case 6: return (int) stack.stream().filter(l -> l.p == 1 && l.q == 1).count();
      default: return -1;
    }
  }
}
