/** The edges of promises 1 to 7: a new object, row, lay, at, tear, copy, mean. */
public final class EdgesOfRowsTest {
  private static final int MIN = Integer.MIN_VALUE, MAX = Integer.MAX_VALUE;

  public static void main(String[] args) {
    Due due = new Due();
    nothingIsThereAtFirst(due);
    callsOfPassengersAtFirst(due);
    twoObjectsAreApart(due);
    rowSizes(due);
    rowNumbers(due);
    rowIsAnew(due);
    eachRowIsItsOwn(due);
    layPlaces(due);
    layRefused(due);
    atPlaces(due);
    tear(due);
    copyEnds(due);
    copyAsIfTakenAhead(due);
    copySize(due);
    copyNothing(due);
    copyBeyond(due);
    copyBad(due);
    meanIsCut(due);
    meanOfTheGreatest(due);
    meanRefused(due);
    due.end();
  }

  // ---- 1

  /** "No ROWS, TEXTS, PASSENGERS", and "missing (at first)". */
  private static void nothingIsThereAtFirst(Due due) {
    Edge e = new Edge(due, x -> { });
    for (int r = 0; r <= 5; r++) {
      int row = r;
      e.finds("new: at(" + r + ", 0)", Edge.NOTHING, x -> x.at(row, 0));
      e.finds("new: lay(" + r + ", 0, 1)", Edge.NOTHING, x -> x.lay(row, 0, 1));
      e.finds("new: tear(" + r + ")", Edge.NOTHING, x -> x.tear(row));
      e.finds("new: mean(" + r + ")", Edge.NOTHING, x -> x.mean(row));
      e.finds("new: copy(" + r + ")", Edge.NOTHING, x -> x.copy(row, 0, row, 0, 0));
    }
    for (int t = 0; t <= 3; t++) {
      int text = t;
      e.finds("new: put(" + t + ", 0, 32)", Edge.NOTHING, x -> x.put(text, 0, 32));
      e.finds("new: fault(" + t + ")", Edge.NOTHING, x -> x.fault(text));
      e.finds("new: ferry(" + t + ")", Edge.NOTHING, x -> x.ferry(text));
    }
    for (int k = 0; k <= 2; k++) {
      int place = k;
      e.finds("new: on(" + k + ")", Edge.NOTHING, x -> x.on(place));
      e.refused("new: keep(" + k + ")", Edge.STATE, x -> x.keep(place));
    }
    for (int what = 0; what <= 9; what++) {
      int it = what;
      e.aside("new: count(" + what + ")", 0, x -> x.count(it));
    }
    e.aside("new: asked()", 0, x -> x.asked());
    e.aside("new: upper()", 0, x -> x.upper());
    e.aside("new: lower()", 1, x -> x.lower());
    e.aside("new: finding()", 0, x -> x.finding());
  }

  /** Without PASSENGERS there is none of number 0: BAD ahead of what a missing ROW would be. */
  private static void callsOfPassengersAtFirst(Due due) {
    Edge e = new Edge(due, x -> { });
    e.refused("new: passenger(0, 0)", Edge.BAD, x -> x.passenger(0, 0));
    e.refused("new: mark(0, 1)", Edge.BAD, x -> x.mark(0, 1));
    e.refused("new: cross(0, 1)", Edge.BAD, x -> x.cross(0, 1));
    e.refused("new: set(0, 0, 1)", Edge.BAD, x -> x.set(0, 0, 1));
    e.refused("new: changes(0, 1, 0)", -100, x -> x.changes(0, 1, 0));
    e.refused("new: run(0, 0)", Edge.BAD, x -> x.run(0, 0));
    e.refused("new: fewest(0, 0, 0, 1)", Edge.BAD, x -> x.fewest(0, 0, 0, 1));
    e.refused("new: lives(0, 0)", Edge.BAD, x -> x.lives(0, 0));
    e.refused("new: declared(0, 0)", Edge.BAD, x -> x.declared(0, 0));
    e.refused("new: kinds(0, 0)", Edge.BAD, x -> x.kinds(0, 0));
    e.refused("new: next(0, 0)", Edge.BAD, x -> x.next(0, 0));
    e.refused("new: alike(0, 1)", Edge.BAD, x -> x.alike(0, 1));
    e.refused("new: duel(0, 1, 0)", Edge.BAD, x -> x.duel(0, 1, 0));
    e.refused("new: odds(0, 0, 0)", Edge.BAD, x -> x.odds(0, 0, 0));
    e.refused("new: mid(0, 0, 0)", Edge.BAD, x -> x.mid(0, 0, 0));
    e.refused("new: boats(0)", Edge.STATE, x -> x.boats(0));
    e.refused("new: sets(0)", Edge.STATE, x -> x.sets(0));
    e.refused("new: sure(0)", Edge.STATE, x -> x.sure(0));
    e.refused("new: lots(1, 1)", Edge.STATE, x -> x.lots(1, 1));
    e.taken("new: undo(0)", 0, x -> x.undo(0));
    e.refused("new: undo(1)", Edge.BAD, x -> x.undo(1));
  }

  private static void twoObjectsAreApart(Due due) {
    FerryChange before = new FerryChange();
    long digest = before.digest();
    Edge.busy(new FerryChange());
    due.is("an object beside a busy one: digest", before.digest() == digest ? 1 : 0, 1);
    due.is("an object beside a busy one: asked", before.asked(), 0);
    due.is("an object beside a busy one: finding", before.finding(), 0);
    due.is("an object behind a busy one", new FerryChange().digest() == digest ? 1 : 0, 1);
  }

  // ---- 2

  /** "rows of 0 to 40 ints"; "BAD: also n above 40; SIZE: below 0". */
  private static void rowSizes(Due due) {
    Edge e = Edge.busyAnd(due, x -> Due.row(x, 0, 5, 6));
    for (int n : new int[] {0, 1, 39, 40}) {
      e.taken("row(0, " + n + ")", n, x -> x.row(0, n));
      Edge there = Edge.busyAnd(due, x -> x.row(0, n));
      if (n > 0) {
        there.told("row(0, " + n + "): its last place", 1, 0, x -> x.at(0, n - 1));
      }
      there.finds("row(0, " + n + "): behind its last place", Edge.BEYOND, x -> x.at(0, n));
    }
    for (int n : new int[] {41, 42, MAX}) {
      e.refused("row(0, " + n + ")", Edge.BAD, x -> x.row(0, n));
      e.refused("row(1, " + n + "), that is missing", Edge.BAD, x -> x.row(1, n));
    }
    for (int n : new int[] {-1, -2, MIN}) {
      e.finds("row(0, " + n + ")", Edge.SIZE, x -> x.row(0, n));
      e.finds("row(1, " + n + "), that is missing", Edge.SIZE, x -> x.row(1, n));
    }
  }

  /** "ROWS 0 .. 5"; BAD is ahead of SIZE. */
  private static void rowNumbers(Due due) {
    Edge e = Edge.busyAnd(due, x -> { });
    e.taken("row(0, 3)", 3, x -> x.row(0, 3));
    e.taken("row(5, 3)", 3, x -> x.row(5, 3));
    for (int r : Edge.outside(0, 5)) {
      e.refused("row(" + r + ", 1)", Edge.BAD, x -> x.row(r, 1));
      e.refused("row(" + r + ", -1)", Edge.BAD, x -> x.row(r, -1));
    }
  }

  /** "A ROW is there with n ints 0": whatever it was before. */
  private static void rowIsAnew(Due due) {
    FerryChange x = new FerryChange();
    x.row(2, 40);
    for (int i = 0; i < 40; i++) {
      x.lay(2, i, i + 1);
    }
    x.row(2, 0);
    due.finds(x, "none is left", x.at(2, 0), Edge.BEYOND);
    x.row(2, 40);
    for (int i = 0; i < 40; i++) {
      due.told(x, "anew: at " + i, x.at(2, i), 0);
    }
    x.lay(2, 39, 7);
    x.tear(2);
    x.row(2, 40);
    due.told(x, "anew behind tear", x.at(2, 39), 0);
    due.is("still one ROW", x.count(7), 1);
  }

  private static void eachRowIsItsOwn(Due due) {
    FerryChange x = new FerryChange();
    for (int r = 0; r <= 5; r++) {
      x.row(r, 40);
      x.lay(r, 0, 10 + r);
      x.lay(r, 39, 20 + r);
    }
    due.is("six ROWS", x.count(7), 6);
    for (int r = 0; r <= 5; r++) {
      due.told(x, "first place of " + r, x.at(r, 0), 10 + r);
      due.told(x, "last place of " + r, x.at(r, 39), 20 + r);
    }
  }

  // ---- 3, 4

  /** "Place i of a ROW is v: what it was, told by asked()": first place, last place, any int. */
  private static void layPlaces(Due due) {
    for (int v : new int[] {MIN, -1, 0, 1, MAX}) {
      FerryChange x = new FerryChange();
      Due.row(x, 3, 4, 5, 6);
      due.told(x, "lay first " + v, x.lay(3, 0, v), 4);
      due.told(x, "lay last " + v, x.lay(3, 2, v), 6);
      due.told(x, "first is " + v, x.at(3, 0), v);
      due.told(x, "middle stays", x.at(3, 1), 5);
      due.told(x, "last is " + v, x.at(3, 2), v);
      due.told(x, "lay over " + v, x.lay(3, 2, 1), v);
    }
  }

  private static void layRefused(Due due) {
    Edge e = Edge.busyAnd(due, x -> {
      Due.row(x, 0, 4, 5, 6);
      x.row(1, 0);
      x.row(3, 40);
    });
    for (int i : Edge.outside(0, 2)) {
      e.finds("lay(0, " + i + ", 9)", Edge.BEYOND, x -> x.lay(0, i, 9));
      e.finds("lay(2, " + i + ", 9): NOTHING ahead of BEYOND", Edge.NOTHING, x -> x.lay(2, i, 9));
    }
    e.finds("lay(1, 0, 9), no ints", Edge.BEYOND, x -> x.lay(1, 0, 9));
    e.taken("lay(3, 39, 9)", 1, x -> x.lay(3, 39, 9));
    e.finds("lay(3, 40, 9)", Edge.BEYOND, x -> x.lay(3, 40, 9));
    e.finds("lay(2, 0, 9)", Edge.NOTHING, x -> x.lay(2, 0, 9));
    for (int r : Edge.outside(0, 5)) {
      e.refused("lay(" + r + ", 0, 9)", Edge.BAD, x -> x.lay(r, 0, 9));
      e.refused("lay(" + r + ", -1, 9)", Edge.BAD, x -> x.lay(r, -1, 9));
    }
  }

  private static void atPlaces(Due due) {
    Edge e = Edge.busyAnd(due, x -> {
      Due.row(x, 0, MIN, 5, MAX);
      x.row(1, 0);
      x.row(3, 40);
    });
    e.told("at(0, 0)", 1, MIN, x -> x.at(0, 0));
    e.told("at(0, 2)", 1, MAX, x -> x.at(0, 2));
    for (int i : Edge.outside(0, 2)) {
      e.finds("at(0, " + i + ")", Edge.BEYOND, x -> x.at(0, i));
      e.finds("at(2, " + i + "): NOTHING ahead of BEYOND", Edge.NOTHING, x -> x.at(2, i));
    }
    e.finds("at(1, 0), no ints", Edge.BEYOND, x -> x.at(1, 0));
    e.told("at(3, 39)", 1, 0, x -> x.at(3, 39));
    e.finds("at(3, 40)", Edge.BEYOND, x -> x.at(3, 40));
    for (int r : Edge.outside(0, 5)) {
      e.refused("at(" + r + ", 0)", Edge.BAD, x -> x.at(r, 0));
      e.refused("at(" + r + ", -1)", Edge.BAD, x -> x.at(r, -1));
    }
  }

  // ---- 5

  /** "A ROW is missing: 1. BAD; NOTHING." A ROW of no ints is not missing. */
  private static void tear(Due due) {
    Edge e = Edge.busyAnd(due, x -> {
      x.row(0, 0);
      x.row(1, 40);
      x.row(2, 1);
      x.tear(2);
    });
    e.taken("tear(0), no ints", 1, x -> x.tear(0));
    e.taken("tear(1), 40 ints", 1, x -> x.tear(1));
    e.taken("tear(5)", 1, x -> x.tear(5));
    e.taken("tear(1): one ROW fewer", 3, x -> x.tear(1) + x.count(7) - 1);
    e.finds("tear(2), torn", Edge.NOTHING, x -> x.tear(2));
    e.finds("tear(3), never there", Edge.NOTHING, x -> x.tear(3));
    for (int r : Edge.outside(0, 5)) {
      e.refused("tear(" + r + ")", Edge.BAD, x -> x.tear(r));
    }
    FerryChange x = new FerryChange();
    Due.row(x, 0, 1);
    Due.row(x, 1, 2);
    x.tear(0);
    due.finds(x, "torn: at", x.at(0, 0), Edge.NOTHING);
    due.finds(x, "torn: lay", x.lay(0, 0, 1), Edge.NOTHING);
    due.told(x, "the other one is there", x.at(1, 0), 2);
  }

  // ---- 6

  private static Edge copies(Due due) {
    return Edge.busyAnd(due, x -> {
      Due.row(x, 0, 1, 2, 3, 4, 5);
      Due.row(x, 1, 7, 8, 9);
      x.row(2, 0);
    });
  }

  /** How a ROW of three figures is, as one number. */
  private static int three(FerryChange x, int r) {
    int all = 0;
    for (int i = 0; i < 3; i++) {
      x.at(r, i);
      all = 10 * all + x.asked();
    }
    return all;
  }

  /** "n places of a ROW, from one on, come to those of another one": none, one, all, up to both ends. */
  private static void copyEnds(Due due) {
    Edge e = copies(due);
    e.taken("copy all that fit", 1345, x -> 1000 * x.copy(0, 2, 1, 0, 3) + three(x, 1));
    e.taken("copy the last to the last", 1785, x -> 1000 * x.copy(0, 4, 1, 2, 1) + three(x, 1));
    e.taken("copy the first to the first", 1189, x -> 1000 * x.copy(0, 0, 1, 0, 1) + three(x, 1));
    e.taken("copy the two last", 1745, x -> 1000 * x.copy(0, 3, 1, 1, 2) + three(x, 1));
    e.aside("copy none", 1, x -> x.copy(0, 0, 1, 0, 0));
    e.aside("copy none from behind the last to behind the last", 1, x -> x.copy(0, 5, 1, 3, 0));
    e.aside("copy none of none", 1, x -> x.copy(2, 0, 2, 0, 0));
    e.aside("copy all onto itself", 1, x -> x.copy(0, 0, 0, 0, 5));
    Edge full = new Edge(due, x -> {
      x.row(0, 40);
      x.row(1, 40);
      x.lay(0, 39, 6);
    });
    full.taken("copy forty", 6, x -> x.copy(0, 0, 1, 0, 40) * x.at(1, 39) * x.asked());
    full.finds("copy forty-one", Edge.BEYOND, x -> x.copy(0, 0, 1, 0, 41));
  }

  /** "(perhaps itself) .. as if taken ahead": upwards and downwards by one. */
  private static void copyAsIfTakenAhead(Due due) {
    Edge e = copies(due);
    e.taken("upwards", 1112, x -> 1000 * x.copy(0, 0, 0, 1, 4) + three(x, 0));
    e.taken("downwards", 1234, x -> 1000 * x.copy(0, 1, 0, 0, 4) + three(x, 0));
    e.taken("upwards by two", 1121, x -> 1000 * x.copy(0, 0, 0, 2, 3) + three(x, 0));
  }

  /** "SIZE: n below 0", ahead of NOTHING and of BEYOND. */
  private static void copySize(Due due) {
    Edge e = copies(due);
    for (int n : new int[] {-1, MIN}) {
      e.finds("copy of " + n, Edge.SIZE, x -> x.copy(0, 0, 1, 0, n));
      e.finds("copy of " + n + " from a missing one", Edge.SIZE, x -> x.copy(3, 0, 1, 0, n));
      e.finds("copy of " + n + " to a missing one", Edge.SIZE, x -> x.copy(0, 0, 3, 0, n));
      e.finds("copy of " + n + " from beyond", Edge.SIZE, x -> x.copy(0, 9, 1, 0, n));
      e.finds("copy of " + n + " to beyond", Edge.SIZE, x -> x.copy(0, 0, 1, -1, n));
    }
  }

  /** "NOTHING: either", ahead of BEYOND. */
  private static void copyNothing(Due due) {
    Edge e = copies(due);
    e.finds("from a missing one", Edge.NOTHING, x -> x.copy(3, 0, 1, 0, 1));
    e.finds("to a missing one", Edge.NOTHING, x -> x.copy(0, 0, 3, 0, 1));
    e.finds("from a missing one to itself", Edge.NOTHING, x -> x.copy(3, 0, 3, 0, 0));
    e.finds("from a missing one, to beyond", Edge.NOTHING, x -> x.copy(3, 0, 1, 9, 1));
    e.finds("to a missing one, from beyond", Edge.NOTHING, x -> x.copy(0, 9, 3, 0, 1));
  }

  /** "BEYOND: not so many there". */
  private static void copyBeyond(Due due) {
    Edge e = copies(due);
    e.finds("one more than there is to take", Edge.BEYOND, x -> x.copy(1, 0, 0, 0, 4));
    e.finds("one more than there is behind a place", Edge.BEYOND, x -> x.copy(1, 1, 0, 0, 3));
    e.finds("one more than there is to come to", Edge.BEYOND, x -> x.copy(0, 0, 1, 0, 4));
    e.finds("one more than there is to come to behind a place", Edge.BEYOND, x -> x.copy(0, 0, 1, 1, 3));
    e.finds("one of none", Edge.BEYOND, x -> x.copy(2, 0, 0, 0, 1));
    e.finds("one to none", Edge.BEYOND, x -> x.copy(0, 0, 2, 0, 1));
    e.finds("beyond in itself", Edge.BEYOND, x -> x.copy(0, 0, 0, 1, 5));
    e.finds("none from beyond the end", Edge.BEYOND, x -> x.copy(0, 6, 1, 0, 0));
    e.finds("none to beyond the end", Edge.BEYOND, x -> x.copy(0, 0, 1, 4, 0));
    e.finds("from -1", Edge.BEYOND, x -> x.copy(0, -1, 1, 0, 1));
    e.finds("none from -1", Edge.BEYOND, x -> x.copy(0, -1, 1, 0, 0));
    e.finds("to -1", Edge.BEYOND, x -> x.copy(0, 0, 1, -1, 1));
    e.finds("none to -1", Edge.BEYOND, x -> x.copy(0, 0, 1, -1, 0));
    e.finds("from the least int", Edge.BEYOND, x -> x.copy(0, MIN, 1, 0, 1));
    e.finds("from the greatest int", Edge.BEYOND, x -> x.copy(0, MAX, 1, 0, 1));
    e.finds("to the greatest int", Edge.BEYOND, x -> x.copy(0, 0, 1, MAX, 1));
    e.finds("the most, so that sums wrap around", Edge.BEYOND, x -> x.copy(0, 1, 1, 1, MAX));
    e.finds("the most from the most", Edge.BEYOND, x -> x.copy(0, MAX, 1, MAX, MAX));
  }

  private static void copyBad(Due due) {
    Edge e = copies(due);
    for (int r : Edge.outside(0, 5)) {
      e.refused("copy from " + r, Edge.BAD, x -> x.copy(r, 0, 1, 0, 1));
      e.refused("copy to " + r, Edge.BAD, x -> x.copy(0, 0, r, 0, 1));
      e.refused("copy from " + r + ", ahead of SIZE", Edge.BAD, x -> x.copy(r, 0, 1, 0, -1));
      e.refused("copy to " + r + ", ahead of NOTHING", Edge.BAD, x -> x.copy(3, 0, r, 0, 1));
      e.refused("copy to " + r + ", ahead of BEYOND", Edge.BAD, x -> x.copy(0, 9, r, 0, 1));
    }
    Edge last = new Edge(due, x -> {
      Due.row(x, 0, 1);
      Due.row(x, 5, 2);
    });
    last.taken("copy from the last ROW", 1, x -> x.copy(5, 0, 0, 0, 1));
    last.taken("copy to the last ROW", 1, x -> x.copy(0, 0, 5, 0, 1));
  }

  // ---- 7

  private static void meanIs(Due due, int want, int... ints) {
    Edge e = Edge.busyAnd(due, x -> Due.row(x, 0, ints));
    e.told("mean of " + ints.length + " ints to " + want, 1, want, x -> x.mean(0));
  }

  /** "cut": what is behind the point goes, above 0 and below 0. */
  private static void meanIsCut(Due due) {
    meanIs(due, 9, 9);
    meanIs(due, 3, 3, 4);
    meanIs(due, -3, -3, -4);
    meanIs(due, 0, 0, 1);
    meanIs(due, 0, 0, -1);
    meanIs(due, 1, 1, 2, 2);
    meanIs(due, -1, -1, -2, -2);
    meanIs(due, 0, -5, 5);
    meanIs(due, -1, MIN, MAX, -2);
    meanIs(due, 0, MIN, MAX);
  }

  /** The ints together may be more than an int holds. */
  private static void meanOfTheGreatest(Due due) {
    int[] most = new int[40];
    int[] least = new int[40];
    java.util.Arrays.fill(most, MAX);
    java.util.Arrays.fill(least, MIN);
    meanIs(due, MAX, most);
    meanIs(due, MIN, least);
    most[39] = MAX - 1;
    meanIs(due, MAX - 1, most);
    least[0] = MIN + 1;
    meanIs(due, MIN + 1, least);
  }

  /** "BAD; NOTHING; NOUGHT": shared among none. */
  private static void meanRefused(Due due) {
    Edge e = Edge.busyAnd(due, x -> x.row(0, 0));
    e.finds("mean of none", Edge.NOUGHT, x -> x.mean(0));
    e.finds("mean of a missing one", Edge.NOTHING, x -> x.mean(1));
    e.told("mean(5)", 1, 1, x -> x.mean(5));
    for (int r : Edge.outside(0, 5)) {
      e.refused("mean(" + r + ")", Edge.BAD, x -> x.mean(r));
    }
  }
}
