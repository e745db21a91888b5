/** The edges of promises 8 to 11: text, put, fault, ferry; and of what a FERRY's TEXT is. */
public final class EdgesOfTextsTest {
  private static final int MIN = Integer.MIN_VALUE, MAX = Integer.MAX_VALUE;
  private static final String SIX = "p0000b0000l0000w0000s0000c0000";

  public static void main(String[] args) {
    Due due = new Due();
    textSizes(due);
    textNumbers(due);
    textIsAnew(due);
    eachTextIsItsOwn(due);
    putIsCutToAByte(due);
    putRefused(due);
    faultRefused(due);
    blanksAsManyAsWanted(due);
    noBlanksWithinItems(due);
    oneToSixPassengers(due);
    letters(due);
    figuresOfThings(due);
    figuresOfBanks(due);
    endsTooEarly(due);
    theFirstPlace(due);
    ferryRefused(due);
    ferryIsAnew(due);
    ferryTakesTheEnds(due);
    due.end();
  }

  // ---- 8

  /** "TEXTS 0 .. 3 rows of 0 to 60 bytes"; "BAD: also n above 60; SIZE: below 0". */
  private static void textSizes(Due due) {
    Edge e = Edge.busyAnd(due, x -> Due.text(x, 1, "ab"));
    for (int n : new int[] {0, 1, 59, 60}) {
      e.taken("text(1, " + n + ")", n, x -> x.text(1, n));
      Edge there = Edge.busyAnd(due, x -> x.text(1, n));
      if (n > 0) {
        there.taken("text(1, " + n + "): its last place", 1032, x -> x.put(1, n - 1, 0));
      }
      there.finds("text(1, " + n + "): behind its last place", Edge.BEYOND, x -> x.put(1, n, 0));
    }
    for (int n : new int[] {61, 62, MAX}) {
      e.refused("text(1, " + n + ")", Edge.BAD, x -> x.text(1, n));
      e.refused("text(2, " + n + "), that is missing", Edge.BAD, x -> x.text(2, n));
    }
    for (int n : new int[] {-1, -2, MIN}) {
      e.finds("text(1, " + n + ")", Edge.SIZE, x -> x.text(1, n));
      e.finds("text(2, " + n + "), that is missing", Edge.SIZE, x -> x.text(2, n));
    }
  }

  /** BAD is ahead of SIZE. */
  private static void textNumbers(Due due) {
    Edge e = Edge.busyAnd(due, x -> { });
    e.taken("text(0, 3)", 3, x -> x.text(0, 3));
    e.taken("text(3, 3)", 3, x -> x.text(3, 3));
    for (int t : Edge.outside(0, 3)) {
      e.refused("text(" + t + ", 1)", Edge.BAD, x -> x.text(t, 1));
      e.refused("text(" + t + ", -1)", Edge.BAD, x -> x.text(t, -1));
    }
  }

  /** "A TEXT is there with n blanks": whatever it was before. */
  private static void textIsAnew(Due due) {
    FerryChange x = new FerryChange();
    x.text(2, 60);
    for (int i = 0; i < 60; i++) {
      x.put(2, i, 'p');
    }
    x.text(2, 0);
    due.finds(x, "none is left", x.put(2, 0, 1), Edge.BEYOND);
    x.text(2, 60);
    for (int i = 0; i < 60; i++) {
      due.is("anew: byte " + i, x.put(2, i, 1), 1032);
    }
    due.is("still one TEXT", x.count(8), 1);
  }

  private static void eachTextIsItsOwn(Due due) {
    FerryChange x = new FerryChange();
    for (int t = 0; t <= 3; t++) {
      x.text(t, 60);
      x.put(t, 0, 10 + t);
      x.put(t, 59, 20 + t);
    }
    due.is("four TEXTS", x.count(8), 4);
    for (int t = 0; t <= 3; t++) {
      due.is("first byte of " + t, x.put(t, 0, 0), 1010 + t);
      due.is("last byte of " + t, x.put(t, 59, 0), 1020 + t);
    }
  }

  // ---- 9

  /** "Byte i of a TEXT is v, cut to a byte: what it was, and 1000 more." */
  private static void putIsCutToAByte(Due due) {
    int[][] cuts = {{0, 0}, {1, 1}, {127, 127}, {128, -128}, {129, -127}, {255, -1}, {256, 0}, {257, 1}, {383, 127},
      {384, -128}, {-1, -1}, {-128, -128}, {-129, 127}, {-256, 0}, {MAX, -1}, {MIN, 0}, {MIN + 127, 127}};
    for (int[] cut : cuts) {
      FerryChange x = new FerryChange();
      x.text(0, 3);
      due.is("put " + cut[0], x.put(0, 1, cut[0]), 1032);
      due.is("put over " + cut[0], x.put(0, 1, 7), 1000 + cut[1]);
      due.is("the byte ahead stays", x.put(0, 0, 7), 1032);
      due.is("the byte behind stays", x.put(0, 2, 7), 1032);
    }
  }

  /** "BAD; NOTHING; BEYOND." */
  private static void putRefused(Due due) {
    Edge e = Edge.busyAnd(due, x -> {
      Due.text(x, 1, "abc");
      x.text(2, 0);
    });
    e.taken("put(1, 0, 1)", 1097, x -> x.put(1, 0, 1));
    e.taken("put(1, 2, 1)", 1099, x -> x.put(1, 2, 1));
    for (int i : Edge.outside(0, 2)) {
      e.finds("put(1, " + i + ", 1)", Edge.BEYOND, x -> x.put(1, i, 1));
      e.finds("put(3, " + i + ", 1): NOTHING ahead of BEYOND", Edge.NOTHING, x -> x.put(3, i, 1));
    }
    e.finds("put(2, 0, 1), no bytes", Edge.BEYOND, x -> x.put(2, 0, 1));
    e.finds("put(3, 0, 1)", Edge.NOTHING, x -> x.put(3, 0, 1));
    for (int t : Edge.outside(0, 3)) {
      e.refused("put(" + t + ", 0, 1)", Edge.BAD, x -> x.put(t, 0, 1));
      e.refused("put(" + t + ", -1, 1)", Edge.BAD, x -> x.put(t, -1, 1));
    }
  }

  // ---- 10

  private static void faultRefused(Due due) {
    Edge e = Edge.busyAnd(due, x -> {
      Due.text(x, 2, "p0000");
      Due.text(x, 3, "p0000");
      x.text(3, 1);
    });
    e.aside("fault(0)", Edge.NONE, x -> x.fault(0));
    e.aside("fault(2)", Edge.NONE, x -> x.fault(2));
    e.aside("fault(3), what was behind is gone", 1, x -> x.fault(3));
    e.finds("fault(1)", Edge.NOTHING, x -> x.fault(1));
    for (int t : Edge.outside(0, 3)) {
      e.refused("fault(" + t + ")", Edge.BAD, x -> x.fault(t));
    }
  }

  /** A TEXT without a FAULT: a FERRY of so many PASSENGERS. */
  private static void goes(Due due, String signs, int passengers) {
    Edge e = Edge.busyAnd(due, x -> Due.text(x, 3, signs));
    e.aside("fault of '" + signs + "'", Edge.NONE, x -> x.fault(3));
    e.taken("ferry of '" + signs + "'", passengers, x -> x.ferry(3));
    e.taken("count behind ferry of '" + signs + "'", passengers, x -> x.ferry(3) * 0 + x.count(0));
  }

  /** A TEXT with a FAULT: ferry() is STATE, and the FERRY is as it was. */
  private static void stops(Due due, String signs, int place) {
    Edge e = Edge.busyAnd(due, x -> Due.text(x, 3, signs));
    e.aside("fault of '" + signs + "'", place, x -> x.fault(3));
    e.refused("ferry of '" + signs + "'", Edge.STATE, x -> x.ferry(3));
  }

  /** "blanks (32) ahead, between, behind as many as wanted", none, too: up to the TEXT's 60 bytes. */
  private static void blanksAsManyAsWanted(Due due) {
    goes(due, "p0000", 1);
    goes(due, " p0000", 1);
    goes(due, "p0000 ", 1);
    goes(due, " ".repeat(55) + "p0000", 1);
    goes(due, "p0000" + " ".repeat(55), 1);
    goes(due, "p0000" + " ".repeat(50) + "b0000", 2);
    goes(due, "p0000b0000", 2);
    goes(due, "p0000 b0000", 2);
    goes(due, SIX + " ".repeat(30), 6);
    goes(due, " ".repeat(30) + SIX, 6);
    goes(due, "     p0000     b0000     l0000     w0000     s0000     c0000", 6);
    for (char sign : new char[] {0, 9, 10, 13, 31, 33, 95, 160, 255}) {
      stops(due, sign + "p0000", 0);
      stops(due, "p0000" + sign, 5);
      stops(due, "p0000" + sign + "b0000", 5);
    }
  }

  /** "none within items". */
  private static void noBlanksWithinItems(Due due) {
    stops(due, "p 0000", 1);
    stops(due, "p0 000", 2);
    stops(due, "p00 00", 3);
    stops(due, "p000 0", 4);
    stops(due, "p0000 b 0000", 7);
    stops(due, "p0000 b000 0", 10);
    stops(due, "p    ", 1);
    stops(due, "p000 ", 4);
  }

  /** "1 to 6 PASSENGERS"; "a seventh PASSENGER: its place". */
  private static void oneToSixPassengers(Due due) {
    stops(due, "", 0);
    stops(due, " ", 1);
    stops(due, " ".repeat(60), 60);
    goes(due, "c9991", 1);
    goes(due, SIX.substring(0, 25), 5);
    goes(due, SIX, 6);
    stops(due, SIX + "p0000", 30);
    stops(due, SIX + " p0000", 31);
    stops(due, SIX + "p", 30);
    stops(due, SIX + " ".repeat(29) + "p", 59);
    stops(due, SIX + " ".repeat(25) + "p0000", 55);
    stops(due, SIX + "p0000b0000", 30);
    stops(due, SIX + "  x", 32);
    stops(due, SIX + "0", 30);
  }

  /** "p, 112", "b, 98", "l, 108", "w, 119", "s, 115", "c, 99": each of the 256 bytes as a letter. */
  private static void letters(Due due) {
    for (int sign = 0; sign <= 255; sign++) {
      int kind = "pblwsc".indexOf((char) sign);
      FerryChange x = new FerryChange();
      Due.text(x, 0, (char) sign + "0000");
      if (sign == 32) {
        due.is("a blank ahead of figures", x.fault(0), 1);
      } else if (kind < 0) {
        due.is("letter " + sign, x.fault(0), 0);
        due.is("letter " + sign + ": ferry", x.ferry(0), Edge.STATE);
      } else {
        due.is("letter " + sign, x.fault(0), Edge.NONE);
        due.is("letter " + sign + ": ferry", x.ferry(0), 1);
        due.told(x, "letter " + sign + ": KIND", x.passenger(0, 0), kind);
      }
    }
    int[] numbers = {112, 98, 108, 119, 115, 99};
    for (int kind = 0; kind <= 5; kind++) {
      FerryChange x = Due.ferry((char) numbers[kind] + "0000");
      due.told(x, "KIND of " + numbers[kind], x.passenger(0, 0), kind);
    }
  }

  /** "three THINGS (0 .. 9; one figure each)": each of the 256 bytes in each of the places. */
  private static void figuresOfThings(Due due) {
    for (int place = 1; place <= 3; place++) {
      for (int sign = 0; sign <= 255; sign++) {
        FerryChange x = new FerryChange();
        Due.text(x, 0, "p5551");
        x.put(0, place, sign);
        boolean figure = sign >= 48 && sign <= 57;
        due.is("THING by " + sign, x.fault(0), figure ? Edge.NONE : place);
        due.is("THING by " + sign + ": ferry", x.ferry(0), figure ? 1 : Edge.STATE);
        if (figure) {
          due.told(x, "THING by " + sign, x.passenger(0, place), sign - 48);
        }
      }
    }
  }

  /** "the BANK on which it is (0, 1; one figure)": each of the 256 bytes. */
  private static void figuresOfBanks(Due due) {
    for (int sign = 0; sign <= 255; sign++) {
      FerryChange x = new FerryChange();
      Due.text(x, 0, "p5551");
      x.put(0, 4, sign);
      boolean figure = sign == 48 || sign == 49;
      due.is("BANK by " + sign, x.fault(0), figure ? Edge.NONE : 4);
      due.is("BANK by " + sign + ": ferry", x.ferry(0), figure ? 1 : Edge.STATE);
      if (figure) {
        due.told(x, "BANK by " + sign, x.passenger(0, 4), sign - 48);
      }
    }
  }

  /** "the TEXT's size, if its end comes too early, or there are blanks alone". */
  private static void endsTooEarly(Due due) {
    stops(due, "p", 1);
    stops(due, "p0", 2);
    stops(due, "p00", 3);
    stops(due, "p000", 4);
    goes(due, "p0000", 1);
    stops(due, "  p000", 6);
    stops(due, "p0000b", 6);
    stops(due, "p0000b000", 9);
    stops(due, " ".repeat(56) + "p000", 60);
    stops(due, " ".repeat(59) + "p", 60);
    stops(due, SIX.substring(0, 29), 29);
    stops(due, "   ", 3);
  }

  /** "A FAULT is the first place at which it can't go on so": one is ahead of another. */
  private static void theFirstPlace(Due due) {
    stops(due, "x", 0);
    stops(due, "px", 1);
    stops(due, "p0000x", 5);
    stops(due, "p00002", 5);
    stops(due, "p0002 x", 4);
    stops(due, "pp000", 1);
    stops(due, "p0000 0", 6);
    stops(due, "P0000", 0);
    stops(due, "p000p0000", 4);
    stops(due, "p:::: ", 1);
  }

  // ---- 11

  /** "BAD; NOTHING; STATE: a FAULT. (STATE behind NOTHING.)" */
  private static void ferryRefused(Due due) {
    Edge e = Edge.busyAnd(due, x -> {
      Due.text(x, 1, "p000");
      Due.text(x, 3, "w1230");
    });
    e.taken("ferry(0)", 6, x -> x.ferry(0));
    e.taken("ferry(3)", 1, x -> x.ferry(3));
    e.refused("ferry(1)", Edge.STATE, x -> x.ferry(1));
    e.finds("ferry(2)", Edge.NOTHING, x -> x.ferry(2));
    for (int t : Edge.outside(0, 3)) {
      e.refused("ferry(" + t + ")", Edge.BAD, x -> x.ferry(t));
    }
  }

  /** "(anew: CROSSING 0, no DEEDS; kept FERRIES go)": with 40 DEEDS and all places kept. */
  private static void ferryIsAnew(Due due) {
    FerryChange x = Due.ferry("p5550 b5550");
    x.lots(20, 1);
    x.keep(0);
    x.keep(1);
    x.lots(20, 2);
    x.keep(2);
    due.is("three are kept", x.count(9), 3);
    due.is("40 DEEDS", x.count(2), 40);
    Due.text(x, 1, "s0001");
    due.is("anew", x.ferry(1), 1);
    due.is("one PASSENGER", x.count(0), 1);
    due.is("CROSSING 0", x.count(1), 0);
    due.is("no DEEDS", x.count(2), 0);
    due.is("nothing to be undone", x.undo(1), Edge.BAD);
    due.is("none is kept", x.count(9), 0);
    for (int k = 0; k <= 2; k++) {
      due.finds(x, "place " + k, x.on(k), Edge.NOTHING);
    }
    due.is("its LIFE", Due.life(x, 0), 1);
    due.is("no other one", x.passenger(1, 0), Edge.BAD);
    due.is("a SAILOR in CROSSING 0", x.mark(0, 1), 2);
    due.is("room for DEEDS", x.cross(0, 1), 1);
    x.keep(1);
    due.is("the same TEXT again", x.ferry(1), 1);
    due.is("as at first", Due.life(x, 0), 1);
    due.is("no DEEDS again", x.count(2), 0);
    due.is("none is kept again", x.count(9), 0);
    x.text(1, 0);
    due.is("it hangs no more on its TEXT", x.count(0), 1);
  }

  /** THINGS 0 and 9, BANKS 0 and 1, the first and the sixth PASSENGER. */
  private static void ferryTakesTheEnds(Due due) {
    FerryChange x = Due.ferry("p0000b9990l0901w9090s0091c9991");
    int[] lives = {0, 9990, 901, 9090, 91, 9991};
    for (int i = 0; i < 6; i++) {
      due.told(x, "KIND " + i, x.passenger(i, 0), i);
      due.is("LIFE and BANK " + i, Due.life(x, i), lives[i]);
    }
  }
}
