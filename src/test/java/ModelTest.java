import java.util.Random;

/** Long runs of calls, mostly sensible ones, answered by the program and by the Model alike. */
public final class ModelTest {
  private static final int RUNS = 400, CALLS = 512;
  private final Random random;
  private final FerryChange x = new FerryChange();
  private final Model m = new Model();
  private final Due due;

  private ModelTest(long seed, Due due) {
    this.random = new Random(seed);
    this.due = due;
  }

  public static void main(String[] args) {
    Due due = new Due();
    for (int run = 0; run < RUNS; run++) {
      new ModelTest(run, due).goOn("run " + run);
    }
    due.end();
  }

  private void goOn(String run) {
    board();
    for (int k = 0; k < CALLS; k++) {
      call(run + ", call " + k);
      due.is(run + ", call " + k + ": asked()", x.asked(), m.asked);
      due.is(run + ", call " + k + ": upper()", x.upper(), m.upper);
      due.is(run + ", call " + k + ": lower()", x.lower(), m.lower);
      due.is(run + ", call " + k + ": finding()", x.finding(), m.finding);
      if (k % 16 == 15) {
        due.is(run + ", call " + k + ": digest()", x.digest(), m.digest());
      }
    }
  }

  /** Now and then one below, or one above. */
  private int pick(int low, int high) {
    if (random.nextInt(40) == 0) {
      return random.nextBoolean() ? low - 1 : high + 1;
    }
    return low + random.nextInt(high - low + 1);
  }

  private int person() {
    return pick(0, Math.max(0, x.count(0) - 1));
  }

  private void putBoth(int t, String signs) {
    x.text(t, signs.length());
    m.text(t, signs.length());
    for (int k = 0; k < signs.length(); k++) {
      due.is("put", x.put(t, k, signs.charAt(k)), m.put(t, k, signs.charAt(k)));
    }
  }

  private void board() {
    StringBuilder signs = new StringBuilder();
    int many = 1 + random.nextInt(random.nextInt(5) == 0 ? 7 : 6);
    boolean light = random.nextInt(3) == 0;
    for (int i = 0; i < many; i++) {
      signs.append(" ".repeat(random.nextInt(3)));
      signs.append("pblwsc".charAt(random.nextInt(6)));
      for (int k = 0; k < 3; k++) {
        int least = random.nextInt(4) == 0 ? 8 : 0;
        signs.append(light ? random.nextInt(3) : least + random.nextInt(10 - least));
      }
      signs.append(random.nextInt(2));
    }
    if (random.nextInt(8) == 0) {
      signs.setCharAt(random.nextInt(signs.length()), "pblwsc0123456789 xX/:\u00ff".charAt(random.nextInt(22)));
    }
    String cut = random.nextInt(10) == 0 ? signs.substring(0, random.nextInt(signs.length())) : signs.toString();
    int t = random.nextInt(4);
    putBoth(t, cut);
    due.is("fault of '" + cut + "'", x.fault(t), m.fault(t));
    due.is("ferry of '" + cut + "'", x.ferry(t), m.ferry(t));
  }

  private void fill(int r, int size, int low, int high) {
    x.row(r, size);
    m.row(r, size);
    for (int k = 0; k < size; k++) {
      int inside = low + random.nextInt(high - low + 1);
      int outside = random.nextBoolean() ? high + 1 : low - 1;
      int v = random.nextInt(100) == 0 ? outside : inside;
      x.lay(r, k, v);
      m.lay(r, k, v);
    }
  }

  /** A ROW that a trial by one KIND gives, so that some KINDS fit. */
  private void fillPairs(int i, int r) {
    int pairs = random.nextInt(5);
    fill(r, 2 * pairs, 0, 6);
    if (i < 0 || i >= x.count(0) || random.nextInt(6) == 0) {
      return;
    }
    Model.Person p = Model.make(random.nextInt(6));
    for (int k = 0; k < 3; k++) {
      x.passenger(i, k + 1);
      m.passenger(i, k + 1);
      p.things[k] = x.asked();
    }
    for (int k = 0; k < pairs; k++) {
      int c = random.nextInt(7);
      p.cross(c, x.count(1) + k);
      x.lay(r, 2 * k, c);
      m.lay(r, 2 * k, c);
      x.lay(r, 2 * k + 1, p.sum());
      m.lay(r, 2 * k + 1, p.sum());
    }
  }

  /** Three ints not far from what a PASSENGER is. */
  private void fillLife(int i, int r) {
    fill(r, random.nextInt(30) == 0 ? 4 : 3, -1, 9);
    for (int k = 0; k < 3; k++) {
      m.passenger(i, k + 1);
      if (x.passenger(i, k + 1) == 1 && random.nextInt(5) > 0) {
        int v = random.nextInt(4) == 0 ? -1 : x.asked() + (random.nextInt(3) == 0 ? random.nextInt(5) - 2 : 0);
        x.lay(r, k, v);
        m.lay(r, k, v);
      }
    }
  }

  private void call(String name) {
    int kind = random.nextInt(34);
    String at = name + " of kind " + kind;
    if (kind < 12) {
      callOfRows(at, kind);
    } else if (kind < 22) {
      callOfDeeds(at, kind);
    } else {
      callAside(at, kind);
    }
  }

  private void callOfRows(String at, int kind) {
    int r = pick(0, 5);
    int i = pick(0, 5);
    int t = pick(0, 3);
    int v = random.nextInt(5) == 0 ? random.nextInt() : random.nextInt(9) - 1;
    switch (kind) {
      case 0: {
        int n = pick(0, random.nextInt(4) == 0 ? 40 : 7);
        due.is(at, x.row(r, n), m.row(r, n));
        break;
      }
      case 1: due.is(at, x.lay(r, i, v), m.lay(r, i, v)); break;
      case 2: due.is(at, x.at(r, i), m.at(r, i)); break;
      case 3: due.is(at, x.tear(r), m.tear(r)); break;
      case 4: {
        int to = random.nextInt(3) == 0 ? r : pick(0, 5);
        int j = pick(0, 3);
        int n = pick(0, 4);
        due.is(at, x.copy(r, i, to, j, n), m.copy(r, i, to, j, n));
        break;
      }
      case 5: due.is(at, x.mean(r), m.mean(r)); break;
      case 6: {
        int n = pick(0, 60);
        due.is(at, x.text(t, n), m.text(t, n));
        break;
      }
      case 7: due.is(at, x.put(t, i, v), m.put(t, i, v)); break;
      case 8: due.is(at, x.fault(t), m.fault(t)); break;
      case 9:
        if (random.nextInt(8) == 0) {
          board();
        } else {
          due.is(at, x.count(i), m.count(i));
        }
        break;
      case 10: {
        int p = person();
        int what = pick(0, 6);
        due.is(at, x.passenger(p, what), m.passenger(p, what));
        break;
      }
      default: {
        int p = person();
        int of = pick(1, 5);
        due.is(at, x.mark(p, of), m.mark(p, of));
      }
    }
  }

  private void callOfDeeds(String at, int kind) {
    int i = person();
    int c = pick(0, 6);
    int k = pick(0, 2);
    int v = pick(0, 9);
    switch (kind) {
      case 12:
      case 13: due.is(at, x.cross(i, c), m.cross(i, c)); break;
      case 14: due.is(at, x.set(i, k, v), m.set(i, k, v)); break;
      case 15: {
        int n = random.nextInt(3) == 0 ? pick(0, x.count(2)) : x.count(2) - random.nextInt(3);
        due.is(at, x.undo(n), m.undo(n));
        break;
      }
      case 16: due.is(at, x.keep(k), m.keep(k)); break;
      case 17: due.is(at, x.on(k), m.on(k)); break;
      case 18: {
        int n = pick(1, random.nextInt(4) == 0 ? 20 : 4);
        int seed = random.nextInt(20) == 0 ? random.nextInt(3) - 1 : random.nextInt(Integer.MAX_VALUE);
        due.is(at, x.lots(n, seed), m.lots(n, seed));
        break;
      }
      case 19: {
        int number = pick(0, 99);
        due.is(at, x.changes(i, c, number), m.changes(i, c, number));
        break;
      }
      case 20: due.is(at, x.count(v), m.count(v)); break;
      default: due.is(at, x.findings(c), m.findings(c));
    }
  }

  private void callAside(String at, int kind) {
    int i = person();
    int j = person();
    int r = pick(0, 5);
    int there = Math.max(0, Math.min(5, r));
    int p = pick(0, 12);
    switch (kind) {
      case 22:
        fill(there, random.nextInt(30) == 0 ? 21 : random.nextInt(21), 0, 6);
        due.is(at, x.run(i, r), m.run(i, r));
        break;
      case 23: {
        fillLife(i, there);
        int bank = pick(-1, 1);
        int to = pick(0, 5);
        due.is(at, x.fewest(i, r, bank, to), m.fewest(i, r, bank, to));
        break;
      }
      case 24: {
        int n = pick(0, random.nextInt(8) == 0 ? 4 : 3);
        due.is(at, x.lives(i, n), m.lives(i, n));
        break;
      }
      case 25:
        fillLife(i, there);
        due.is(at, x.declared(i, r), m.declared(i, r));
        break;
      case 26:
        fillPairs(i, there);
        due.is(at, x.kinds(i, r), m.kinds(i, r));
        break;
      case 27:
        fillPairs(i, there);
        due.is(at, x.next(i, r), m.next(i, r));
        break;
      case 28: {
        int load = pick(0, random.nextInt(2) == 0 ? 99 : 30);
        due.is(at, x.boats(load), m.boats(load));
        break;
      }
      case 29: {
        int v = pick(0, random.nextInt(2) == 0 ? 180 : 40);
        due.is(at, x.sets(v), m.sets(v));
        break;
      }
      case 30: {
        int v = pick(0, random.nextInt(2) == 0 ? 180 : 40);
        due.is(at, x.sure(v), m.sure(v));
        break;
      }
      case 31: due.is(at, x.alike(i, j), m.alike(i, j)); break;
      case 32: {
        int n = pick(0, random.nextInt(8) == 0 ? 2 : 1);
        due.is(at, x.duel(i, j, n), m.duel(i, j, n));
        break;
      }
      default:
        fill(there, pick(1, 6), 0, 6);
        due.is(at, x.odds(i, r, p), m.odds(i, r, p));
        due.is(at, x.upper(), m.upper);
        due.is(at, x.lower(), m.lower);
        due.is(at, x.mid(i, r, p), m.mid(i, r, p));
    }
  }
}
