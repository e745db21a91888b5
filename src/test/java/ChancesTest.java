/** Promises 31 to 33: odds, mid, lots. */
public final class ChancesTest {
  private static final int NOTHING = 1, UNLIKE = 3, SIZE = 5;

  public static void main(String[] args) {
    Due due = new Due();
    odds(due);
    mid(due);
    refused(due);
    lots(due);
    lotsRefused(due);
    due.end();
  }

  private static void odds(Due due) {
    FerryChange x = Due.ferry("p5550 b8551 l5550 w5551 s8550 c5551");
    Due.row(x, 0, 1);
    due.parts(x, "believed", x.odds(0, 0, 0), 1, 1);
    due.parts(x, "never believed", x.odds(0, 0, 12), 0, 1);
    due.parts(x, "7 of 12", x.odds(0, 0, 7), 5, 12);
    due.parts(x, "lowest terms", x.odds(0, 0, 3), 3, 4);
    due.parts(x, "it can't be", x.odds(1, 0, 3), 0, 1);
    Due.row(x, 0, 1, 3);
    due.parts(x, "there and back", x.odds(3, 0, 0), 0, 1);
    due.parts(x, "one of two", x.odds(0, 0, 6), 1, 2);
    due.parts(x, "one of two, 1 of 12", x.odds(0, 0, 1), 11, 72);
    Due.row(x, 0, 6);
    due.parts(x, "the last DECLARATION", x.odds(0, 0, 0), 1, 1);
    Due.row(x, 0, 0);
    due.parts(x, "None", x.odds(0, 0, 0), 0, 1);
    due.parts(x, "a CLERK by None", x.odds(5, 0, 4), 2, 3);
    Due.row(x, 0, 1, 1);
    due.parts(x, "a SAILOR's second, by 1", x.odds(4, 0, 6), 1, 2);
    Due.row(x, 0, 1, 1, 1, 1, 1, 1);
    // 9 is come to by one of the odd ones (8 and 1); the even ones (by 2) can't be.
    due.parts(x, "a SAILOR's six", x.odds(4, 0, 6), 7, 8);
    // A LIAR's sixth can't be, if it has come to 0 by five: of the six, 1, 3, 5 or all are believed.
    int odd = 6 * 11 + 20 * 1331 + 6 * 161051;
    due.parts(x, "six by 1 of 12", x.odds(2, 0, 1), odd + 1771561, 2985984);
    Due.row(x, 0, 1, 2, 1, 2, 1, 2);
    due.parts(x, "six to and fro by 1 of 12", x.odds(2, 0, 1), odd / 32, 2985984 / 32);
  }

  private static void mid(Due due) {
    FerryChange x = Due.ferry("p5550 b8551 l5550 w5551 s8550 c5551");
    Due.row(x, 0, 1);
    due.parts(x, "believed", x.mid(0, 0, 0), 16, 1);
    due.parts(x, "never believed", x.mid(0, 0, 12), 15, 1);
    due.parts(x, "7 of 12", x.mid(0, 0, 7), 15 * 12 + 5, 12);
    due.parts(x, "a LIAR", x.mid(2, 0, 6), 29, 2);
    Due.row(x, 0, 1, 2, 4);
    due.parts(x, "a BRIDE, the first can't be", x.mid(1, 0, 6), 16, 1);
    Due.row(x, 0, 2, 1, 3);
    due.parts(x, "a SAILOR by 2, 1, 2", x.mid(4, 0, 0), 18 - 2 + 1 + 2, 1);
    FerryChange light = Due.ferry("c0000");
    due.is("row", light.row(0, 6), 6);
    due.parts(light, "nothing", light.mid(0, 0, 5), 0, 1);
    FerryChange edge = Due.ferry("p9000");
    // 9: less (2) and then more (1): 9 unless less is believed and more is not.
    Due.row(edge, 0, 2, 1);
    due.parts(edge, "it hangs on the one ahead", edge.mid(0, 0, 3), 9 * 16 - 3, 16);
    due.is("asked is not touched", edge.asked(), 0);
  }

  private static void refused(Due due) {
    FerryChange x = Due.ferry("p5550");
    due.finds(x, "odds: no ROW", x.odds(0, 0, 1), NOTHING);
    due.finds(x, "mid: no ROW", x.mid(0, 0, 1), NOTHING);
    x.row(0, 0);
    due.finds(x, "odds: no ints", x.odds(0, 0, 1), SIZE);
    due.finds(x, "mid: no ints", x.mid(0, 0, 1), SIZE);
    x.row(0, 7);
    x.lay(0, 0, 7);
    due.finds(x, "odds: 7 ints", x.odds(0, 0, 1), SIZE);
    due.finds(x, "mid: 7 ints", x.mid(0, 0, 1), SIZE);
    Due.row(x, 0, 6, 7);
    due.finds(x, "odds: 7", x.odds(0, 0, 1), UNLIKE);
    due.finds(x, "mid: 7", x.mid(0, 0, 1), UNLIKE);
    Due.row(x, 0, 6, -1);
    due.finds(x, "odds: -1", x.odds(0, 0, 1), UNLIKE);
    due.finds(x, "mid: -1", x.mid(0, 0, 1), UNLIKE);
    int[][] bad = {{1, 0, 1}, {-1, 0, 1}, {0, 6, 1}, {0, -1, 1}, {0, 0, 13}, {0, 0, -1}};
    for (int[] b : bad) {
      due.is("odds: BAD", x.odds(b[0], b[1], b[2]), -1);
      due.is("mid: BAD", x.mid(b[0], b[1], b[2]), -1);
    }
    due.is("upper stays", x.upper(), 0);
    due.is("lower stays", x.lower(), 1);
  }

  /** The same DEEDS by lot and by hand. */
  private static void lots(Due due) {
    for (int seed = 1; seed <= 200; seed++) {
      FerryChange x = Due.ferry("p5550 b8551 l5550 w5551 s8550 c5551");
      FerryChange y = Due.ferry("p5550 b8551 l5550 w5551 s8550 c5551");
      long lot = seed * 10000L;
      int bits = x.lots(20, seed * 10000);
      int deeds = 0;
      for (int k = 0; k < 20; k++) {
        lot = 48271 * lot % 2147483647L;
        int i = (int) (lot % 6);
        if (lot / 8 % 8 == 7) {
          deeds += y.set(i, (int) (lot / 64 % 3), (int) (lot / 256 % 10)) == -4 ? 1 : 0;
        } else {
          y.cross(i, (int) (lot / 8 % 7));
        }
      }
      due.is("lots: BANK 1", bits, y.count(3));
      due.is("lots: DEEDS, some of which change nothing", x.count(2), y.count(2) + deeds);
      due.is("lots: CROSSINGS", x.count(1), y.count(1));
      for (int i = 0; i < 6; i++) {
        due.is("lots: life", Due.life(x, i), Due.life(y, i));
      }
      due.is("lots: undone", x.undo(0), 20);
      due.is("lots: as at first", Due.life(x, 1), 8551);
    }
  }

  private static void lotsRefused(Due due) {
    FerryChange alone = Due.ferry("c5551");
    alone.lots(5, 1);
    due.is("lots of one alone", alone.count(2), 5);
    FerryChange none = new FerryChange();
    due.is("no PASSENGERS", none.lots(1, 1), -4);
    due.is("BAD ahead", none.lots(0, 1), -1);
    FerryChange x = Due.ferry("p5550 b8551");
    due.is("n 0", x.lots(0, 1), -1);
    due.is("n 21", x.lots(21, 1), -1);
    due.is("n -1", x.lots(-1, 1), -1);
    due.is("seed 0", x.lots(1, 0), -1);
    due.is("seed -1", x.lots(1, -1), -1);
    due.is("seed 2147483647", x.lots(1, 2147483647), -1);
    due.is("no DEEDS", x.count(2), 0);
    x.lots(20, 2147483646);
    due.is("20 DEEDS", x.count(2), 20);
    x.lots(1, 7);
    long before = x.digest();
    due.is("41 DEEDS", x.lots(20, 7), -2);
    due.is("nothing is changed", x.digest() == before ? 1 : 0, 1);
    due.is("40 DEEDS", x.lots(19, 7) >= 0 ? x.count(2) : -1, 40);
    due.is("FULL", x.lots(1, 7), -2);
    due.is("BAD ahead of FULL", x.lots(1, 0), -1);
  }
}
