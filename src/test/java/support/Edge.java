import java.util.ArrayList;
import java.util.List;

/**
 * One call at an edge, on a new object each time, beside a twin that is made alike and on which the
 * call is not made: so it is seen whether what is refused has changed anything.
 */
final class Edge {
  interface Made {
    void by(FerryChange x);
  }

  interface Call {
    long on(FerryChange x);
  }

  static final int BAD = -1, FULL = -2, STATE = -4, NONE = -9;
  static final int NOTHING = 1, BEYOND = 2, UNLIKE = 3, NOUGHT = 4, SIZE = 5;

  private final Due due;
  private final Made made;

  Edge(Due due, Made made) {
    this.due = due;
    this.made = made;
  }

  /** As busy() makes it, and then some more. */
  static Edge busyAnd(Due due, Made more) {
    return new Edge(due, x -> {
      busy(x);
      more.by(x);
    });
  }

  /** A FERRY of these signs in TEXT 0, and then some more. */
  static Edge ferryAnd(Due due, String signs, Made more) {
    return new Edge(due, x -> {
      Due.text(x, 0, signs);
      x.ferry(0);
      more.by(x);
    });
  }

  /** One of each KIND, two DEEDS, two kept FERRIES; all that is told is something: ROWS 0 .. 3 are missing. */
  static void busy(FerryChange x) {
    Due.text(x, 0, "p5230b9810 l1190w0451s8801c4410");
    x.ferry(0);
    x.keep(2);
    x.cross(0, 1);
    x.set(1, 0, 3);
    x.keep(1);
    Due.row(x, 5, 1);
    x.odds(0, 5, 5);
    x.mark(0, 1);
    Due.row(x, 4, 77);
    x.at(4, 0);
  }

  /** The numbers next to the ends of what is taken, and the farthest. */
  static int[] outside(int low, int high) {
    return new int[] {Integer.MIN_VALUE, low - 1, high + 1, Integer.MAX_VALUE};
  }

  /** BAD, FULL, STATE, or NONE: nothing is changed, neither finding() nor findings(). */
  void refused(String call, int answer, Call c) {
    aside(call, answer, c);
  }

  /** Nothing is changed but finding(), and one of findings() by 1. */
  void finds(String call, int finding, Call c) {
    FerryChange x = fresh();
    FerryChange twin = fresh();
    answers(call, x, twin, FerryChange.FINDING, c, finding);
    toldIsAlike(call, x, twin);
    allIsAlike(call, x, twin);
  }

  /** It answers, and may change whatever it likes but finding() and findings(). */
  void taken(String call, long answer, Call c) {
    answers(call, fresh(), fresh(), answer, c, 0);
  }

  /** It answers, tells nothing, and changes nothing. */
  void aside(String call, long answer, Call c) {
    FerryChange x = fresh();
    FerryChange twin = fresh();
    answers(call, x, twin, answer, c, 0);
    toldIsAlike(call, x, twin);
    allIsAlike(call, x, twin);
  }

  /** It answers and tells something by asked(), and changes nothing. */
  void told(String call, long answer, long asked, Call c) {
    FerryChange x = fresh();
    FerryChange twin = fresh();
    answers(call, x, twin, answer, c, 0);
    due.is(call + ": asked()", x.asked(), asked);
    allIsAlike(call, x, twin);
  }

  /** It answers 1 and tells a number by upper() and lower(), and changes nothing. */
  void parts(String call, long upper, long lower, Call c) {
    FerryChange x = fresh();
    FerryChange twin = fresh();
    answers(call, x, twin, 1, c, 0);
    due.is(call + ": upper()", x.upper(), upper);
    due.is(call + ": lower()", x.lower(), lower);
    allIsAlike(call, x, twin);
  }

  private FerryChange fresh() {
    FerryChange x = new FerryChange();
    made.by(x);
    return x;
  }

  /** The answer, and by which FINDING (0: by none). */
  private void answers(String call, FerryChange x, FerryChange twin, long answer, Call c, int finding) {
    due.is(call, c.on(x), answer);
    due.is(call + ": finding()", x.finding(), finding == 0 ? twin.finding() : finding);
    for (int f = 1; f <= 5; f++) {
      due.is(call + ": findings(" + f + ")", x.findings(f), twin.findings(f) + (f == finding ? 1 : 0));
    }
  }

  private void toldIsAlike(String call, FerryChange x, FerryChange twin) {
    due.is(call + ": asked() stays", x.asked(), twin.asked());
    due.is(call + ": upper() stays", x.upper(), twin.upper());
    due.is(call + ": lower() stays", x.lower(), twin.lower());
  }

  private void allIsAlike(String call, FerryChange x, FerryChange twin) {
    due.is(call + ": has something been changed?", whole(x).equals(whole(twin)) ? 0 : 1, 0);
  }

  /** What is there, DEED by DEED, and what is kept likewise; the object is used up by it. */
  private static List<Long> whole(FerryChange x) {
    List<Long> all = new ArrayList<>();
    deedByDeed(x, all);
    for (int k = 0; k < 3; k++) {
      all.add((long) x.on(k));
      deedByDeed(x, all);
    }
    return all;
  }

  private static void deedByDeed(FerryChange x, List<Long> all) {
    all.add(x.digest());
    for (int n = x.count(2) - 1; n >= 0; n--) {
      x.undo(n);
      all.add(x.digest());
    }
  }
}
