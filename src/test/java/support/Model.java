import java.math.BigInteger;
import java.util.ArrayList;
import java.util.Arrays;
import java.util.HashSet;
import java.util.List;
import java.util.Set;
import java.util.TreeMap;

/**
 * The document once more, written another way than the program: kinds as classes, deeds as whole
 * copies, and every search by trying all. It is slow, and made to be compared with.
 */
final class Model {
  static class Person {
    int[] things = new int[3];
    int bank;

    Person like(Person p) {
      things = p.things.clone();
      bank = p.bank;
      return this;
    }

    int step(int number) {
      return 1;
    }

    int way(boolean more) {
      return more ? 1 : -1;
    }

    int thing(int c) {
      return (c + 1) / 2 - 1;
    }

    boolean landsByNone() {
      return false;
    }

    int extra() {
      return 0;
    }

    boolean cross(int c, int number) {
      if (c == 0) {
        if (landsByNone()) {
          bank ^= 1;
        }
        return landsByNone();
      }
      int then = things[thing(c)] + way(c == 1 || c == 3 || c == 5) * step(number);
      if (then < 0 || then > 9) {
        return false;
      }
      things[thing(c)] = then;
      bank ^= 1;
      return true;
    }

    int sum() {
      return things[0] + things[1] + things[2];
    }
  }

  static class Bride extends Person {
    @Override int step(int number) {
      return 2;
    }

    @Override int extra() {
      return 1;
    }
  }

  static class Sailor extends Bride {
    @Override int step(int number) {
      return 2 - number % 2;
    }
  }

  static class Liar extends Person {
    @Override int way(boolean more) {
      return more ? -1 : 1;
    }
  }

  static class Clerk extends Liar {
    @Override boolean landsByNone() {
      return true;
    }
  }

  static class Widower extends Person {
    @Override int thing(int c) {
      return (super.thing(c) + 1) % 3;
    }
  }

  static Person make(int kind) {
    switch (kind) {
      case 0: return new Person();
      case 1: return new Bride();
      case 2: return new Liar();
      case 3: return new Widower();
      case 4: return new Sailor();
      default: return new Clerk();
    }
  }

  static int kindOf(Person p) {
    for (int k = 0; k < 6; k++) {
      if (make(k).getClass() == p.getClass()) {
        return k;
      }
    }
    throw new IllegalStateException();
  }

  static Person twin(Person p) {
    return make(kindOf(p)).like(p);
  }

  /** All that a FERRY is, but for its DEEDS. */
  static final class Shape {
    final List<Person> people = new ArrayList<>();
    int crossing = 0;

    Shape twinShape() {
      Shape s = new Shape();
      s.crossing = crossing;
      for (Person p : people) {
        s.people.add(twin(p));
      }
      return s;
    }
  }

  private final int[][] rows = new int[6][];
  private final byte[][] texts = new byte[4][];
  private Shape shape = new Shape();
  private List<Shape> ahead = new ArrayList<>();
  private final Shape[] keptShape = new Shape[3];
  private final List<List<Shape>> keptAhead = new ArrayList<>(Arrays.asList(null, null, null));
  int asked = 0;
  long upper = 0;
  long lower = 1;
  int finding = 0;
  final int[] findings = new int[6];

  private int find(int f) {
    finding = f;
    findings[f]++;
    return -3;
  }

  private static boolean in(int v, int low, int high) {
    return v >= low && v <= high;
  }

  private boolean one(int i) {
    return in(i, 0, shape.people.size() - 1);
  }

  private Person who(int i) {
    return twin(shape.people.get(i));
  }

  private void tell(BigInteger u, BigInteger l) {
    BigInteger g = u.gcd(l);
    upper = u.divide(g).longValueExact();
    lower = l.divide(g).longValueExact();
  }

  int row(int r, int n) {
    if (!in(r, 0, 5) || n > 40) {
      return -1;
    }
    if (n < 0) {
      return find(5);
    }
    rows[r] = new int[n];
    return n;
  }

  int lay(int r, int i, int v) {
    int e = at(r, i);
    if (e == 1) {
      rows[r][i] = v;
    }
    return e;
  }

  int at(int r, int i) {
    if (!in(r, 0, 5)) {
      return -1;
    }
    if (rows[r] == null) {
      return find(1);
    }
    if (!in(i, 0, rows[r].length - 1)) {
      return find(2);
    }
    asked = rows[r][i];
    return 1;
  }

  int tear(int r) {
    if (!in(r, 0, 5)) {
      return -1;
    }
    if (rows[r] == null) {
      return find(1);
    }
    rows[r] = null;
    return 1;
  }

  int copy(int r, int i, int to, int j, int n) {
    if (!in(r, 0, 5) || !in(to, 0, 5)) {
      return -1;
    }
    if (n < 0) {
      return find(5);
    }
    if (rows[r] == null || rows[to] == null) {
      return find(1);
    }
    if (i < 0 || j < 0 || (long) i + n > rows[r].length || (long) j + n > rows[to].length) {
      return find(2);
    }
    int[] taken = Arrays.copyOfRange(rows[r], i, i + n);
    for (int k = 0; k < n; k++) {
      rows[to][j + k] = taken[k];
    }
    return 1;
  }

  int mean(int r) {
    if (!in(r, 0, 5)) {
      return -1;
    }
    if (rows[r] == null) {
      return find(1);
    }
    if (rows[r].length == 0) {
      return find(4);
    }
    BigInteger sum = BigInteger.ZERO;
    for (int v : rows[r]) {
      sum = sum.add(BigInteger.valueOf(v));
    }
    asked = sum.divide(BigInteger.valueOf(rows[r].length)).intValueExact();
    return 1;
  }

  int text(int t, int n) {
    if (!in(t, 0, 3) || n > 60) {
      return -1;
    }
    if (n < 0) {
      return find(5);
    }
    texts[t] = new byte[n];
    Arrays.fill(texts[t], (byte) ' ');
    return n;
  }

  int put(int t, int i, int v) {
    if (!in(t, 0, 3)) {
      return -1;
    }
    if (texts[t] == null) {
      return find(1);
    }
    if (!in(i, 0, texts[t].length - 1)) {
      return find(2);
    }
    int was = texts[t][i];
    texts[t][i] = (byte) v;
    return 1000 + was;
  }

  /** The longest beginning that could still be gone on from to a FERRY ends at the FAULT. */
  private static int faultOf(String s) {
    String item = "[pblwsc][0-9]{3}[01]";
    if (s.matches(" *(" + item + " *){1,6}")) {
      return -9;
    }
    for (int n = s.length(); n > 0; n--) {
      String part = s.substring(0, n);
      String beginning = " *(" + item + " *){0,5}([pblwsc]?|[pblwsc][0-9]{1,3})";
      if (part.matches(beginning) || part.matches(" *(" + item + " *){1,6}")) {
        return n;
      }
    }
    return 0;
  }

  int fault(int t) {
    if (!in(t, 0, 3)) {
      return -1;
    }
    return texts[t] == null ? find(1) : faultOf(latin(texts[t]));
  }

  private static String latin(byte[] b) {
    return new String(b, java.nio.charset.StandardCharsets.ISO_8859_1);
  }

  int ferry(int t) {
    int f = fault(t);
    if (f == -1 || f == -3) {
      return f;
    }
    if (f != -9) {
      return -4;
    }
    shape = new Shape();
    ahead = new ArrayList<>();
    String s = latin(texts[t]).replace(" ", "");
    for (int k = 0; k < s.length(); k += 5) {
      Person p = make("pblwsc".indexOf(s.charAt(k)));
      for (int q = 0; q < 3; q++) {
        p.things[q] = s.charAt(k + 1 + q) - '0';
      }
      p.bank = s.charAt(k + 4) - '0';
      shape.people.add(p);
    }
    Arrays.fill(keptShape, null);
    return shape.people.size();
  }

  private int landings(int i) {
    int bits = 0;
    for (int c = 0; c < 7; c++) {
      bits |= who(i).cross(c, shape.crossing) ? 1 << c : 0;
    }
    return bits;
  }

  private int weight(int i) {
    return who(i).sum() + who(i).extra();
  }

  private int known(int i, int what) {
    Person p = who(i);
    int[] all = {kindOf(p), p.things[0], p.things[1], p.things[2], p.bank, weight(i), landings(i)};
    return all[what];
  }

  int passenger(int i, int what) {
    if (!one(i) || !in(what, 0, 6)) {
      return -1;
    }
    asked = known(i, what);
    return 1;
  }

  int mark(int i, int kind) {
    if (!one(i) || !in(kind, 1, 5)) {
      return -1;
    }
    Person p = who(i);
    if (!make(kind).getClass().isInstance(p)) {
      return find(3);
    }
    if (kind == 1) {
      return p.step(shape.crossing);
    }
    if (kind == 2) {
      return Integer.bitCount(landings(i));
    }
    if (kind == 3) {
      int least = Math.min(p.things[0], Math.min(p.things[1], p.things[2]));
      return p.things[0] == least ? 0 : p.things[1] == least ? 1 : 2;
    }
    if (kind == 4) {
      return shape.crossing & 1;
    }
    int others = -1;
    for (Person q : shape.people) {
      others += q.bank == p.bank ? 1 : 0;
    }
    return others;
  }

  int cross(int i, int c) {
    if (!one(i) || !in(c, 0, 6)) {
      return -1;
    }
    if (ahead.size() >= 40) {
      return -2;
    }
    ahead.add(shape.twinShape());
    return shape.people.get(i).cross(c, shape.crossing++) ? 1 : 0;
  }

  int set(int i, int thing, int v) {
    if (!one(i) || !in(thing, 0, 2) || !in(v, 0, 9)) {
      return -1;
    }
    int was = who(i).things[thing];
    if (was == v) {
      return -4;
    }
    if (ahead.size() >= 40) {
      return -2;
    }
    ahead.add(shape.twinShape());
    shape.people.get(i).things[thing] = v;
    return was;
  }

  int undo(int n) {
    if (!in(n, 0, ahead.size())) {
      return -1;
    }
    int many = ahead.size() - n;
    if (many > 0) {
      shape = ahead.get(n).twinShape();
      ahead = new ArrayList<>(ahead.subList(0, n));
    }
    return many;
  }

  int keep(int k) {
    if (!in(k, 0, 2)) {
      return -1;
    }
    if (shape.people.isEmpty()) {
      return -4;
    }
    keptShape[k] = shape.twinShape();
    keptAhead.set(k, new ArrayList<>(ahead));
    return ahead.size();
  }

  int on(int k) {
    if (!in(k, 0, 2)) {
      return -1;
    }
    if (keptShape[k] == null) {
      return find(1);
    }
    shape = keptShape[k].twinShape();
    ahead = new ArrayList<>(keptAhead.get(k));
    return ahead.size();
  }

  int changes(int i, int c, int number) {
    if (!one(i) || !in(c, 0, 6) || !in(number, 0, 99)) {
      return -100;
    }
    Person p = who(i);
    Arrays.fill(p.things, 5);
    p.cross(c, number);
    asked = 0;
    for (int k = 0; k < 3; k++) {
      if (p.things[k] != 5) {
        asked = k;
      }
    }
    return p.sum() - 15;
  }

  /** 0 if the ROW has sizes and ints as told, else what is refused. */
  private int rowRefused(int r, int fewest, int most, int low, int high) {
    if (rows[r] == null) {
      return find(1);
    }
    if (!in(rows[r].length, fewest, most)) {
      return find(5);
    }
    for (int v : rows[r]) {
      if (!in(v, low, high)) {
        return find(3);
      }
    }
    return 0;
  }

  int run(int i, int r) {
    if (!one(i) || !in(r, 0, 5)) {
      return -1;
    }
    int e = rowRefused(r, 0, 20, 0, 6);
    if (e != 0) {
      return e;
    }
    Person p = who(i);
    int landed = 0;
    int number = shape.crossing;
    for (int c : rows[r]) {
      landed += p.cross(c, number++) ? 1 : 0;
    }
    asked = 100 * p.things[0] + 10 * p.things[1] + p.things[2];
    return landed;
  }

  private static boolean fits(Person p, int[] told) {
    for (int k = 0; k < 3; k++) {
      if (told[k] != -1 && told[k] != p.things[k]) {
        return false;
      }
    }
    return true;
  }

  int fewest(int i, int r, int bank, int to) {
    if (!one(i) || !in(r, 0, 5) || !in(bank, -1, 1) || !in(to, 0, 5)) {
      return -1;
    }
    int e = rowRefused(r, 3, 3, -1, 9);
    if (e != 0) {
      return e;
    }
    int many = 1;
    for (int n = 0; n <= 4; n++) {
      for (int code = 0; code < many; code++) {
        int[] path = new int[n];
        for (int k = n - 1, rest = code; k >= 0; k--, rest /= 7) {
          path[k] = rest % 7;
        }
        Person p = who(i);
        for (int k = 0; k < n; k++) {
          p.cross(path[k], shape.crossing + k);
        }
        if (fits(p, rows[r]) && (bank == -1 || bank == p.bank)) {
          rows[to] = path;
          return n;
        }
      }
      many *= 7;
    }
    return -9;
  }

  private void walk(Person p, int number, int left, Set<String> found) {
    found.add(Arrays.toString(p.things));
    for (int c = 0; left > 0 && c < 7; c++) {
      Person q = twin(p);
      q.cross(c, number);
      walk(q, number + 1, left - 1, found);
    }
  }

  int lives(int i, int n) {
    if (!one(i) || !in(n, 0, 4)) {
      return -1;
    }
    Set<String> found = new HashSet<>();
    walk(who(i), shape.crossing, n, found);
    upper = found.size();
    lower = 1;
    return 1;
  }

  int declared(int i, int r) {
    if (!one(i) || !in(r, 0, 5)) {
      return -1;
    }
    int e = rowRefused(r, 3, 3, -1, 9);
    if (e != 0) {
      return e;
    }
    int bits = 0;
    for (int c = 0; c < 7; c++) {
      Person p = who(i);
      p.cross(c, shape.crossing);
      bits |= fits(p, rows[r]) ? 1 << c : 0;
    }
    return bits;
  }

  int kinds(int i, int r) {
    if (!one(i) || !in(r, 0, 5)) {
      return -1;
    }
    if (rows[r] == null) {
      return find(1);
    }
    if (rows[r].length > 16 || rows[r].length % 2 == 1) {
      return find(5);
    }
    for (int k = 0; k < rows[r].length; k++) {
      if (!in(rows[r][k], 0, k % 2 == 0 ? 6 : 27)) {
        return find(3);
      }
    }
    int bits = 0;
    for (int kind = 0; kind < 6; kind++) {
      Person p = make(kind).like(who(i));
      boolean can = true;
      for (int k = 0; k < rows[r].length; k += 2) {
        p.cross(rows[r][k], shape.crossing + k / 2);
        can = can && p.sum() == rows[r][k + 1];
      }
      bits |= can ? 1 << kind : 0;
    }
    return bits;
  }

  int next(int i, int r) {
    int bits = kinds(i, r);
    if (bits < 0) {
      return bits;
    }
    if (bits == 0) {
      return -9;
    }
    int best = -1;
    for (int c = 0; c < 7; c++) {
      TreeMap<Integer, Integer> parts = new TreeMap<>();
      for (int kind = 0; kind < 6; kind++) {
        if ((bits & 1 << kind) != 0) {
          Person p = make(kind).like(who(i));
          p.cross(c, shape.crossing);
          parts.merge(p.sum(), 1, Integer::sum);
        }
      }
      int greatest = parts.values().stream().max(Integer::compare).get();
      if (best == -1 || greatest < asked) {
        best = c;
        asked = greatest;
      }
    }
    return best;
  }

  /** Every way to put PASSENGER i and those behind it into boats; the best is kept in found. */
  private void load(int i, List<Integer> boats, int most, int[] found) {
    if (i == shape.people.size()) {
      int first = boats.get(0);
      if (boats.size() < found[0] || boats.size() == found[0] && first < found[1]) {
        found[0] = boats.size();
        found[1] = first;
      }
      return;
    }
    for (int b = 0; b <= boats.size(); b++) {
      List<Integer> then = new ArrayList<>(boats);
      if (b == boats.size()) {
        then.add(0);
      }
      then.set(b, then.get(b) | 1 << i);
      if (weightOf(then.get(b)) <= most) {
        load(i + 1, then, most, found);
      }
    }
  }

  private int weightOf(int bits) {
    int sum = 0;
    for (int i = 0; i < shape.people.size(); i++) {
      sum += (bits & 1 << i) == 0 ? 0 : weight(i);
    }
    return sum;
  }

  int boats(int load) {
    if (!in(load, 0, 99)) {
      return -1;
    }
    if (shape.people.isEmpty()) {
      return -4;
    }
    int[] found = {99, 99};
    load(0, new ArrayList<>(), load, found);
    if (found[0] == 99) {
      return -9;
    }
    asked = found[1];
    return found[0];
  }

  private List<Integer> setsOf(int v) {
    List<Integer> all = new ArrayList<>();
    for (int bits = 0; bits < 1 << shape.people.size(); bits++) {
      if (weightOf(bits) == v) {
        all.add(bits);
      }
    }
    return all;
  }

  int sets(int v) {
    if (!in(v, 0, 180)) {
      return -1;
    }
    if (shape.people.isEmpty()) {
      return -4;
    }
    List<Integer> all = setsOf(v);
    upper = all.size();
    lower = 1;
    asked = all.isEmpty() ? -9 : all.get(0);
    return 1;
  }

  int sure(int v) {
    if (!in(v, 0, 180)) {
      return -1;
    }
    if (shape.people.isEmpty()) {
      return -4;
    }
    List<Integer> all = setsOf(v);
    if (all.isEmpty()) {
      return find(4);
    }
    int each = 0;
    asked = 0;
    for (int i = 0; i < shape.people.size(); i++) {
      int bit = 1 << i;
      each |= all.stream().allMatch(s -> (s & bit) != 0) ? bit : 0;
      asked |= all.stream().noneMatch(s -> (s & bit) != 0) ? bit : 0;
    }
    return each;
  }

  int alike(int i, int j) {
    if (!one(i) || !one(j) || i == j) {
      return -1;
    }
    List<Integer> ways = new ArrayList<>();
    for (int code = 0; code < 49; code++) {
      Person p = who(i);
      Person q = who(j);
      p.cross(code / 7, shape.crossing);
      q.cross(code % 7, shape.crossing + 1);
      if (Arrays.equals(p.things, q.things)) {
        ways.add(code / 7 * 10 + code % 7);
      }
    }
    if (ways.isEmpty()) {
      return -9;
    }
    asked = ways.get(0);
    return ways.size();
  }

  private static int best(Person p, Person q, int number, int left, boolean first) {
    if (left == 0) {
      return first ? p.sum() - q.sum() : q.sum() - p.sum();
    }
    int best = first ? -99 : 99;
    for (int c = 0; c < 7; c++) {
      Person then = twin(p);
      then.cross(c, number);
      int v = best(q, then, number + 1, left - 1, !first);
      best = first ? Math.max(best, v) : Math.min(best, v);
    }
    return best;
  }

  int duel(int i, int j, int n) {
    if (!one(i) || !one(j) || i == j || !in(n, 0, 2)) {
      return -1;
    }
    asked = best(who(i), who(j), shape.crossing, 2 * n, true);
    return 1;
  }

  /** 12 to the number of DECLARATIONS left times the mean of what is looked for. */
  private static BigInteger weigh(Person p, int[] row, int k, int number, int not, int bank) {
    if (k == row.length) {
      return BigInteger.valueOf(bank == -1 ? p.sum() : p.bank == bank ? 0 : 1);
    }
    Person then = twin(p);
    then.cross(row[k], number + k);
    return weigh(p, row, k + 1, number, not, bank).multiply(BigInteger.valueOf(not))
        .add(weigh(then, row, k + 1, number, not, bank).multiply(BigInteger.valueOf(12 - not)));
  }

  private int chances(int i, int r, int p, boolean byBank) {
    if (!one(i) || !in(r, 0, 5) || !in(p, 0, 12)) {
      return -1;
    }
    int e = rowRefused(r, 1, 6, 0, 6);
    if (e != 0) {
      return e;
    }
    tell(weigh(who(i), rows[r], 0, shape.crossing, p, byBank ? who(i).bank : -1),
        BigInteger.valueOf(12).pow(rows[r].length));
    return 1;
  }

  int odds(int i, int r, int p) {
    return chances(i, r, p, true);
  }

  int mid(int i, int r, int p) {
    return chances(i, r, p, false);
  }

  int lots(int n, int seed) {
    if (!in(n, 1, 20) || !in(seed, 1, 2147483646)) {
      return -1;
    }
    if (shape.people.isEmpty()) {
      return -4;
    }
    if (ahead.size() + n > 40) {
      return -2;
    }
    long lot = seed;
    for (int k = 0; k < n; k++) {
      lot = lot * 48271 % 2147483647;
      ahead.add(shape.twinShape());
      Person p = shape.people.get((int) (lot % shape.people.size()));
      if (lot / 8 % 8 == 7) {
        p.things[(int) (lot / 64 % 3)] = (int) (lot / 256 % 10);
      } else {
        p.cross((int) (lot / 8 % 7), shape.crossing++);
      }
    }
    return count(3);
  }

  int count(int what) {
    int n = shape.people.size();
    int v = 0;
    switch (what) {
      case 0: return n;
      case 1: return shape.crossing;
      case 2: return ahead.size();
      case 3:
        for (int i = 0; i < n; i++) {
          v |= who(i).bank << i;
        }
        return v;
      case 4: return weightOf(63);
      case 5:
      case 6:
        for (Person p : shape.people) {
          v += (what == 5 ? p instanceof Bride : p instanceof Liar) ? 1 : 0;
        }
        return v;
      case 7: return there(rows);
      case 8: return there(texts);
      case 9: return there(keptShape);
      default: return -1;
    }
  }

  private static int there(Object[] all) {
    int v = 0;
    for (Object o : all) {
      v += o == null ? 0 : 1;
    }
    return v;
  }

  int findings(int f) {
    return in(f, 1, 5) ? findings[f] : -1;
  }

  long digest() {
    List<Integer> all = new ArrayList<>();
    for (int what = 0; what <= 9; what++) {
      all.add(count(what));
    }
    for (int i = 0; i < shape.people.size(); i++) {
      for (int what = 0; what <= 6; what++) {
        all.add(known(i, what));
      }
    }
    for (int k = 0; k < 3; k++) {
      all.add(keptShape[k] == null ? -1 : keptAhead.get(k).size());
    }
    for (int[] row : rows) {
      all.add(row == null ? -1 : row.length);
      for (int k = 0; row != null && k < row.length; k++) {
        all.add(row[k]);
      }
    }
    for (byte[] text : texts) {
      all.add(text == null ? -1 : text.length);
      for (int k = 0; text != null && k < text.length; k++) {
        all.add((int) text[k]);
      }
    }
    long h = 17;
    for (int v : all) {
      h = 31 * h + v;
    }
    return h;
  }
}
