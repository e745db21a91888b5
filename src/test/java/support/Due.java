/** Counts the answers that are not the ones that are due, and makes ferries and rows for tests. */
final class Due {
  private int asked = 0;
  private int wrong = 0;

  void is(String call, long got, long want) {
    asked++;
    if (got != want) {
      wrong++;
      if (wrong <= 50) {
        System.out.println(call + " answered " + got + ", due is " + want);
      }
    }
  }

  /** A call that answers 1 and tells its number by asked(). */
  void told(FerryChange x, String call, int got, int want) {
    is(call, got, 1);
    is(call + ", asked()", x.asked(), want);
  }

  /** A call that answers 1 and tells upper() by lower(). */
  void parts(FerryChange x, String call, int got, long upper, long lower) {
    is(call, got, 1);
    is(call + ", upper()", x.upper(), upper);
    is(call + ", lower()", x.lower(), lower);
  }

  /** A call that is refused by a FINDING. */
  void finds(FerryChange x, String call, int got, int finding) {
    is(call, got, FerryChange.FINDING);
    is(call + ", finding()", x.finding(), finding);
  }

  void end() {
    System.out.println(asked + " answers, " + wrong + " not as due");
    if (wrong != 0 || asked == 0) {
      System.exit(1);
    }
  }

  static void text(FerryChange x, int t, String signs) {
    x.text(t, signs.length());
    for (int k = 0; k < signs.length(); k++) {
      x.put(t, k, signs.charAt(k));
    }
  }

  static FerryChange ferry(String signs) {
    FerryChange x = new FerryChange();
    text(x, 0, signs);
    x.ferry(0);
    return x;
  }

  static void row(FerryChange x, int r, int... values) {
    x.row(r, values.length);
    for (int k = 0; k < values.length; k++) {
      x.lay(r, k, values[k]);
    }
  }

  /** The THINGS of a PASSENGER and its BANK, as four figures. */
  static int life(FerryChange x, int i) {
    int sum = 0;
    for (int what = 1; what <= 4; what++) {
      x.passenger(i, what);
      sum = 10 * sum + x.asked();
    }
    return sum;
  }
}
