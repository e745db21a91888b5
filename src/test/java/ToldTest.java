/** Promises 34 to 40: asked, upper, lower, count, finding, findings, digest. */
public final class ToldTest {
  public static void main(String[] args) {
    Due due = new Due();
    constants(due);
    asked(due);
    upperAndLower(due);
    count(due);
    findings(due);
    digest(due);
    due.end();
  }

  private static void constants(Due due) {
    due.is("BAD", FerryChange.BAD, -1);
    due.is("FULL", FerryChange.FULL, -2);
    due.is("FINDING", FerryChange.FINDING, -3);
    due.is("STATE", FerryChange.STATE, -4);
    due.is("SPENT", FerryChange.SPENT, -6);
    due.is("NONE", FerryChange.NONE, -9);
  }

  private static void asked(Due due) {
    FerryChange x = Due.ferry("p5550 b8551 l5550 w5551 s8550 c5551");
    due.is("0 before", x.asked(), 0);
    x.row(0, 3);
    x.lay(0, 0, 6);
    x.lay(0, 0, 5);
    due.is("lay", x.asked(), 6);
    untouched(due, x, 6);
    x.lay(0, 1, 5);
    x.lay(0, 2, 5);
    x.at(0, 2);
    due.is("at", x.asked(), 5);
    x.mean(0);
    due.is("mean", x.asked(), 5);
    x.passenger(1, 5);
    due.is("passenger", x.asked(), 19);
    untouched(due, x, 19);
    x.changes(0, 4, 1);
    due.is("changes", x.asked(), 1);
    x.run(0, 0);
    due.is("run", x.asked(), 558);
    untouched(due, x, 558);
    x.boats(99);
    due.is("boats", x.asked(), 63);
    x.sets(180);
    due.is("sets", x.asked(), -9);
    x.sure(15);
    due.is("sure", x.asked(), 2 + 16);
    x.alike(0, 2);
    due.is("alike", x.asked(), 0);
    x.duel(0, 1, 1);
    due.is("duel", x.asked(), -4);
    x.row(1, 0);
    x.next(0, 1);
    due.is("next", x.asked(), 3);
    untouched(due, x, 3);
  }

  /** Calls that tell nothing by asked(), or are refused, or NONE. */
  private static void untouched(Due due, FerryChange x, int asked) {
    x.row(5, 3);
    x.copy(5, 0, 5, 1, 1);
    x.text(1, 3);
    x.put(1, 0, 'p');
    x.fault(1);
    x.ferry(1);
    x.mark(1, 1);
    x.cross(0, 0);
    x.keep(0);
    x.on(0);
    x.undo(0);
    x.fewest(0, 5, -1, 5);
    x.tear(5);
    x.lives(0, 1);
    x.declared(0, 0);
    x.lots(1, 1);
    x.undo(0);
    x.lay(0, 99, 1);
    x.at(0, 99);
    x.mean(4);
    x.passenger(9, 1);
    x.changes(9, 1, 1);
    x.run(9, 0);
    x.next(9, 0);
    x.boats(1);
    x.sets(999);
    x.sure(179);
    x.alike(0, 0);
    x.duel(0, 0, 1);
    x.count(3);
    x.finding();
    x.findings(1);
    x.digest();
    due.is("asked is not touched", x.asked(), asked);
    x.cross(0, 0);
  }

  private static void upperAndLower(Due due) {
    FerryChange x = Due.ferry("p5550");
    Due.row(x, 0, 1);
    due.is("0 before", x.upper(), 0);
    due.is("1 before", x.lower(), 1);
    x.odds(0, 0, 3);
    due.is("odds", x.upper(), 3);
    due.is("odds", x.lower(), 4);
    x.odds(0, 0, 13);
    x.mid(0, 9, 1);
    x.lives(0, 9);
    x.sets(-1);
    due.is("refused", x.upper(), 3);
    due.is("refused", x.lower(), 4);
    x.lives(0, 1);
    due.is("lives", x.upper(), 7);
    due.is("lives", x.lower(), 1);
    x.mid(0, 0, 3);
    due.is("mid", x.upper(), 63);
    due.is("mid", x.lower(), 4);
    x.sets(15);
    due.is("sets", x.upper(), 1);
    due.is("sets", x.lower(), 1);
    x.sets(16);
    due.is("no sets", x.upper(), 0);
    due.is("no sets", x.lower(), 1);
  }

  private static void count(Due due) {
    FerryChange x = Due.ferry("p5550 b8551 l5550 w5551 s8550 c5551");
    x.cross(0, 1);
    x.set(1, 0, 0);
    x.cross(5, 0);
    x.keep(1);
    x.row(3, 0);
    x.row(4, 1);
    x.text(2, 0);
    int[] want = {6, 2, 3, 1 + 2 + 8, 16 + 11 + 15 + 15 + 19 + 15, 2, 2, 2, 2, 1};
    for (int what = 0; what <= 9; what++) {
      due.is("count(" + what + ")", x.count(what), want[what]);
    }
    due.is("count(10)", x.count(10), -1);
    due.is("count(-1)", x.count(-1), -1);
  }

  private static void findings(Due due) {
    FerryChange x = new FerryChange();
    due.is("0 before any", x.finding(), 0);
    for (int f = 1; f <= 5; f++) {
      due.is("findings(" + f + ")", x.findings(f), 0);
    }
    due.is("findings(0)", x.findings(0), -1);
    due.is("findings(6)", x.findings(6), -1);
    due.is("findings(-1)", x.findings(-1), -1);
    x.at(0, 0);
    x.at(0, 0);
    due.is("NOTHING", x.finding(), 1);
    x.row(0, 0);
    x.at(0, 0);
    due.is("BEYOND", x.finding(), 2);
    x.mean(0);
    x.mean(0);
    x.mean(0);
    due.is("NOUGHT", x.finding(), 4);
    x.row(0, -1);
    due.is("SIZE", x.finding(), 5);
    x.at(9, 0);
    x.row(0, 1);
    due.is("the latest stays", x.finding(), 5);
    int[] want = {2, 1, 0, 3, 1};
    for (int f = 1; f <= 5; f++) {
      due.is("findings(" + f + ")", x.findings(f), want[f - 1]);
    }
    Due.text(x, 0, "p0000");
    x.ferry(0);
    x.mark(0, 1);
    due.is("UNLIKE", x.finding(), 3);
    due.is("findings(3)", x.findings(3), 1);
  }

  private static void digest(Due due) {
    FerryChange x = new FerryChange();
    due.is("digest of a new one", x.digest(), digestOf(new long[10], new long[0], -1, -1, -1,
        -1, -1, -1, -1, -1, -1, -1, -1, -1, -1));
    Due.text(x, 0, "b1231 c0000");
    x.ferry(0);
    x.cross(0, 1);
    x.keep(1);
    x.text(1, 2);
    x.put(1, 1, 200);
    Due.row(x, 2, -5, 7);
    x.row(5, 0);
    long[] counts = {2, 1, 1, 0, 9, 1, 1, 2, 2, 1};
    long[] known = {1, 3, 2, 3, 0, 9, 126, 5, 0, 0, 0, 0, 0, 1 + 4 + 16 + 64};
    due.is("digest", x.digest(), digestOf(counts, known, -1, 1, -1,
        -1, -1, 2, -5, 7, -1, -1, 0,
        11, 'b', '1', '2', '3', '1', ' ', 'c', '0', '0', '0', '0', 2, ' ', -56, -1, -1));
    due.is("digest again", x.digest() == x.digest() ? 1 : 0, 1);
  }

  private static long digestOf(long[] counts, long[] known, long... rest) {
    long h = 17;
    for (long v : counts) {
      h = 31 * h + v;
    }
    for (long v : known) {
      h = 31 * h + v;
    }
    for (int k = 0; k < rest.length; k++) {
      h = 31 * h + rest[k];
    }
    return h;
  }
}
