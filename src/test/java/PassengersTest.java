/** Promises 12 and 13: passenger, mark. */
public final class PassengersTest {
  private static final int UNLIKE = 3;

  public static void main(String[] args) {
    Due due = new Due();
    passenger(due);
    landings(due);
    mark(due);
    due.end();
  }

  private static void passenger(Due due) {
    FerryChange x = Due.ferry("p1230 b4561 l7890 w0121 s3450 c6781");
    int[] weights = {6, 16, 24, 3, 13, 21};
    for (int i = 0; i < 6; i++) {
      due.told(x, "kind", x.passenger(i, 0), i);
      due.told(x, "weight " + i, x.passenger(i, 5), weights[i]);
    }
    due.told(x, "thing 0", x.passenger(1, 1), 4);
    due.told(x, "thing 1", x.passenger(1, 2), 5);
    due.told(x, "thing 2", x.passenger(1, 3), 6);
    due.told(x, "bank", x.passenger(1, 4), 1);
    due.told(x, "bank", x.passenger(2, 4), 0);
    due.is("passenger(6, 0)", x.passenger(6, 0), -1);
    due.is("passenger(-1, 0)", x.passenger(-1, 0), -1);
    due.is("passenger(0, 7)", x.passenger(0, 7), -1);
    due.is("passenger(0, -1)", x.passenger(0, -1), -1);
    due.is("asked stays", x.asked(), 0);
  }

  private static void landings(Due due) {
    FerryChange x = Due.ferry("p0950 b1850 l0950 w0950 s1850 c0950");
    due.told(x, "a PASSENGER at its ends", x.passenger(0, 6), 2 + 16 + 32 + 64);
    due.told(x, "a BRIDE at its ends", x.passenger(1, 6), 2 + 16 + 32 + 64);
    due.told(x, "a LIAR at its ends", x.passenger(2, 6), 4 + 8 + 32 + 64);
    due.told(x, "a WIDOWER at its ends", x.passenger(3, 6), 4 + 8 + 16 + 32);
    due.told(x, "a SAILOR in an even CROSSING", x.passenger(4, 6), 2 + 16 + 32 + 64);
    due.told(x, "a CLERK, by None too", x.passenger(5, 6), 1 + 4 + 8 + 32 + 64);
    x.cross(0, 0);
    due.told(x, "a SAILOR in an odd CROSSING", x.passenger(4, 6), 126);
    due.told(x, "a BRIDE in an odd CROSSING", x.passenger(1, 6), 2 + 16 + 32 + 64);
  }

  private static void mark(Due due) {
    FerryChange x = Due.ferry("p1230 b4561 l0890 w2120 s3450 c6780");
    int[][] marks = {
      {-3, -3, -3, -3, -3}, {2, -3, -3, -3, -3}, {-3, 4, -3, -3, -3},
      {-3, -3, 1, -3, -3}, {2, -3, -3, 0, -3}, {-3, 7, -3, -3, 4}};
    for (int i = 0; i < 6; i++) {
      for (int kind = 1; kind <= 5; kind++) {
        due.is("mark(" + i + ", " + kind + ")", x.mark(i, kind), marks[i][kind - 1]);
      }
    }
    due.is("a finding", x.finding(), UNLIKE);
    x.cross(5, 0);
    due.is("a BRIDE", x.mark(1, 1), 2);
    due.is("a SAILOR as a BRIDE, odd", x.mark(4, 1), 1);
    due.is("a SAILOR, odd", x.mark(4, 4), 1);
    due.is("a CLERK on the other BANK", x.mark(5, 5), 1);
    x.cross(0, 0);
    due.is("a SAILOR as a BRIDE, even again", x.mark(4, 1), 2);
    due.is("a SAILOR, even again", x.mark(4, 4), 0);
    x.set(3, 0, 1);
    due.is("the first that is least", x.mark(3, 3), 0);
    x.set(3, 2, 0);
    due.is("the last is least", x.mark(3, 3), 2);
    due.is("KIND 0", x.mark(0, 0), -1);
    due.is("KIND 6", x.mark(0, 6), -1);
    due.is("KIND -1", x.mark(0, -1), -1);
    due.is("PASSENGER 6", x.mark(6, 1), -1);
    due.is("PASSENGER -1", x.mark(-1, 1), -1);
    due.is("asked is not touched", x.asked(), 0);
    FerryChange one = Due.ferry("c9991");
    due.is("a CLERK alone", one.mark(0, 5), 0);
    due.is("a CLERK as a LIAR", one.mark(0, 2), 4);
  }
}
