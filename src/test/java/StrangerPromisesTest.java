// Promises 31 to 37: reports, lost pieces, the liar, lots.
public final class StrangerPromisesTest {
  private static final Due due = new Due();
  private static final int BAD = -1, FULL = -2, NONE = -3, STATE = -4;

  public static void main(String[] args) {
    report();
    forget();
    lost();
    lostByYears();
    lostBeyond();
    liar();
    liarByKinds();
    seedAndLot();
    times();
    timesOf16Years();
    due.end();
  }

  private static BridgeService quiet() {
    BridgeService x = new BridgeService();
    for (int y = 0; y < 16; y++) x.news(y, 3);
    return x;
  }

  private static void report() {
    due.promise(31, "report");
    BridgeService x = new BridgeService();
    int[][] wrong = {{-1, 0, 0, 0}, {16, 0, 0, 0}, {0, -1, 0, 0}, {0, 2, 0, 0}, {0, 0, -1, 0}, {0, 0, 0, 41}, {0, 0, 41, 41}, {0, 0, 5, 4},
        {0, 1, -1, 0}, {0, 1, 0, 10}, {0, 1, 10, 10}, {0, 1, 9, 8}, {0, 0, 0, -1}};
    for (int[] w : wrong) due.is("wrong", x.report(w[0], w[1], w[2], w[3]), BAD);
    due.is("reports", x.many(3), 0);
    int[][] right = {{0, 0, 0, 40}, {15, 0, 40, 40}, {0, 1, 0, 9}, {15, 1, 9, 9}, {3, 0, 0, 0}, {3, 1, 4, 4}};
    for (int i = 0; i < 6; i++) due.is("right", x.report(right[i][0], right[i][1], right[i][2], right[i][3]), i);
    due.is("the seventh", x.report(0, 0, 0, 0), FULL);
    due.is("BAD ahead of FULL", x.report(0, 0, 5, 4), BAD);
    due.is("reports", x.many(3), 6);
  }

  private static void forget() {
    due.promise(32, "forget");
    BridgeService x = new BridgeService();
    due.is("none", x.forget(), 0);
    x.report(0, 0, 40, 40);
    x.report(0, 0, 40, 40);
    due.is("none fits", x.lost(0), 0);
    due.is("two", x.forget(), 2);
    due.is("none now", x.many(3), 0);
    due.is("all fit", x.lost(0), 500);
    due.is("the first again", x.report(0, 0, 0, 0), 0);
  }

  private static void is(BridgeService x, int count, int kind, int width, int mood) {
    due.is("how many", x.lost(0), count);
    due.is("kind", x.lost(1), kind);
    due.is("width", x.lost(2), width);
    due.is("mood", x.lost(3), mood);
  }

  private static void lost() {
    due.promise(33, "lost");
    BridgeService x = quiet();
    is(x, 500, 1, 0, 0);
    due.is("what 4", x.lost(4), BAD);
    due.is("what -1", x.lost(-1), BAD);
    // behind a year SHE is at 5 or beyond: dishes, tureens and boats of width 4 to 9, by MOOD 4 to 9
    x.report(1, 0, 5, 40);
    is(x, 108, 1, 4, 4);
    x.report(1, 1, 9, 9);
    is(x, 18, 1, 4, 9);
    // dishes of 4, 5, tureens and boats of 4 to 7
    x.report(2, 0, 2, 6);
    is(x, 10, 1, 4, 9);
    x.report(15, 0, 5, 5);
    is(x, 4, 2, 4, 9);
    x.report(0, 0, 1, 40);
    is(x, 0, NONE, NONE, NONE);
    due.is("what 4", x.lost(4), BAD);
    // neither where she is, nor how it is now, counts; nor the end
    BridgeService y = quiet();
    y.plate(1, 0, 0, 0);
    y.plate(1, 2, 0, 0);
    y.home(0, 0, 9);
    y.family(0, 1);
    y.family(1, 20);
    y.year();
    y.ends(1);
    Say.rules(y, "plate leave;");
    y.report(1, 0, 5, 40);
    is(y, 108, 1, 4, 4);
    y.forget();
    y.report(15, 0, 10, 10);
    // dishes of 8 and 9: by any MOOD, in 10 years at most
    is(y, 20, 1, 8, 0);
  }

  private static void lostByYears() {
    due.promise(33, "lost, by years");
    // a cracked one spans none in the years 0 and 3; a boat but 1 in the year 1
    BridgeService x = quiet();
    x.report(1, 0, 0, 0);
    is(x, 100, 5, 0, 0);
    x.report(2, 0, 2, 2);
    // 2 places by width 2 to 9 and MOOD 1 to 9
    is(x, 72, 5, 2, 1);
    x.forget();
    // by MOOD 0 one place a year: a boat goes on in the year 0, stays in 1 and 3, goes on in 2
    x.report(0, 1, 0, 0);
    x.report(1, 0, 1, 1);
    x.report(2, 0, 1, 1);
    x.report(3, 0, 2, 2);
    x.report(4, 0, 2, 2);
    x.report(5, 0, 3, 3);
    is(x, 10, 3, 0, 0);
    // by news MOOD changes
    BridgeService y = quiet();
    y.news(0, 12);
    y.news(1, 9);
    y.news(2, 6);
    y.report(1, 1, 9, 9);
    // MOOD 6 to 9
    is(y, 200, 1, 0, 6);
    y.report(3, 1, 6, 6);
    // 9, 7, 6 in all these
    is(y, 200, 1, 0, 6);
    y.forget();
    y.report(2, 1, 1, 2);
    is(y, 100, 1, 0, 0);
    y.report(3, 1, 4, 5);
    due.is("1 and 2 become 2 and 3", y.lost(0), 0);
    y.forget();
    // 4, 2, 3 by MOOD 1 alone
    y.report(3, 1, 3, 3);
    is(y, 50, 1, 0, 1);
  }

  // by MOOD 9 at first, 6 then, SHE goes 7 PLACES in the year 0: 10 would need MOOD 12 at first
  private static void lostBeyond() {
    due.promise(33, "lost, none fits");
    BridgeService x = quiet();
    x.news(0, 13);
    x.report(1, 0, 10, 10);
    is(x, 0, NONE, NONE, NONE);
    due.promise(34, "liar, none fits");
    due.is("the only report", x.liar(), 0);
    x.forget();
    x.report(1, 0, 7, 7);
    due.promise(33, "lost, by the greatest MOOD");
    // dishes of 8 PLACES or 10, tureens and boats of 7; the least dish is of width 6
    is(x, 8, 1, 6, 9);
    x.forget();
    x.report(15, 0, 11, 40);
    due.promise(33, "lost, beyond the widest");
    is(x, 0, NONE, NONE, NONE);
  }

  // none but dishes of width 8 and 9 come to 10; none comes to 11
  private static void liarByKinds() {
    due.promise(34, "liar, by a dish alone");
    BridgeService x = quiet();
    x.report(15, 0, 10, 10);
    x.report(15, 0, 11, 40);
    due.is("the second", x.liar(), 1);
    x.forget();
    x.report(15, 0, 11, 40);
    x.report(15, 0, 10, 10);
    due.is("the first", x.liar(), 0);
    x.forget();
    x.report(15, 0, 40, 40);
    x.report(15, 0, 11, 40);
    due.is("two that can't be", x.liar(), NONE);
  }

  private static void liar() {
    due.promise(34, "liar");
    BridgeService x = quiet();
    due.is("all fit", x.liar(), NONE);
    x.report(0, 1, 3, 3);
    due.is("some fit", x.liar(), NONE);
    x.report(0, 0, 1, 40);
    due.is("the second", x.liar(), 1);
    x.report(0, 0, 7, 40);
    due.is("there is no such report", x.liar(), NONE);
    x.forget();
    x.report(5, 1, 3, 3);
    x.report(5, 1, 4, 4);
    due.is("either, the least", x.liar(), 0);
    x.report(5, 1, 3, 4);
    due.is("either, the least", x.liar(), 0);
    x.report(2, 1, 3, 3);
    due.is("but for the second three fit", x.liar(), 1);
    // but for the latest report few fit: one kind, one MOOD, the least widths
    BridgeService y = quiet();
    y.report(1, 0, 0, 0);
    y.report(3, 0, 1, 2);
    y.report(0, 0, 1, 1);
    due.is("a cracked one", y.liar(), 2);
    for (int mood : new int[] {0, 9}) {
      BridgeService z = quiet();
      z.report(0, 1, mood, mood);
      z.report(1, 1, mood, mood);
      z.report(2, 1, 5, 5);
      due.is("by MOOD " + mood, z.liar(), 2);
    }
    // saucers of width 0 and 1 alone: 1 place in the year 0, and cracked ones have none
    BridgeService w = quiet();
    w.report(15, 0, 1, 1);
    w.report(1, 0, 1, 1);
    w.report(0, 1, 1, 9);
    w.report(0, 0, 1, 1);
    due.is("by width 0 or 1", w.liar(), 3);
  }

  private static void seedAndLot() {
    due.promise(35, "seed");
    BridgeService x = quiet();
    due.is("at first", x.seed(Integer.MIN_VALUE), 1);
    due.is("then", x.seed(2), Integer.MIN_VALUE);
    due.promise(36, "lot");
    x.plate(1, 0, 2, 0);
    x.plate(1, 4, 2, 0);
    // 33676 % 3 is 1, 22817 % 3 is 2; z is below 0 first
    due.is("1 is told", x.lot(), 9);
    due.is("who sits", x.state(4), 1);
    due.promise(35, "seed");
    due.is("z went on", x.seed(-2087924461), -2087924461);
    due.promise(36, "lot");
    due.is("2 is told", x.lot(), 9);
    due.is("who sits", x.state(4), 3);
    due.is("score", x.state(2), 18);
    due.is("year", x.state(0), 2);
    due.is("mood", x.state(6), 5);
    due.promise(35, "seed");
    due.is("z went on", x.seed(7), 1495354192);
    due.promise(36, "lot");
    x.ends(2);
    due.is("over", x.lot(), STATE);
    due.is("year", x.state(0), 2);
    due.promise(35, "seed");
    due.is("z stays then", x.seed(7), 7);
    due.promise(36, "lot");
    BridgeService y = quiet();
    for (int k = 0; k < 6; k++) y.plate(4, 0, 0, 0);
    // from 1: 16838 % 7 is 3, 38526 % 7 is 5 (z is below 0), 10113 % 7 is 5, 50283 % 7 is 2, 63819 % 7 is 0
    int[] seated = {4, 20, 20, 22, 22};
    for (int s : seated) {
      y.lot();
      due.is("who sits", y.state(4), s);
    }
    BridgeService z = quiet();
    due.is("no pieces", z.lot(), 0);
    due.is("year", z.state(0), 1);
  }

  // three pieces, YEAR 1 of 4, z 321
  private static BridgeService threePieces() {
    BridgeService x = quiet();
    x.plate(1, 0, 4, 0);
    x.plate(2, 5, 3, 0);
    x.plate(3, 9, 8, 1);
    x.home(1, 0, 5);
    x.ends(4);
    x.year();
    x.seed(321);
    return x;
  }

  // what 40 times all years yet by lot are worth, lot by lot
  private static int[] worthByLots() {
    BridgeService x = threePieces();
    x.keep();
    int[] worth = new int[40];
    int z = 321;
    for (int i = 0; i < 40; i++) {
      x.again();
      x.seed(z);
      for (int y = 1; y < 4; y++) worth[i] += x.lot();
      z = x.seed(0);
    }
    return worth;
  }

  // SHE goes one PLACE in each year, by MOOD 0, whoever is told
  private static void timesOf16Years() {
    due.promise(37, "times, 16 years");
    BridgeService x = quiet();
    x.family(0, 0);
    x.plate(1, 0, 8, 0);
    x.plate(1, 10, 8, 0);
    x.change(0, 4, 1);
    x.change(1, 4, 1);
    Say.rules(x, "plate stand;");
    x.ends(16);
    due.is("worth 32", x.times(40, 32), 40);
    due.is("worth no more", x.times(40, 33), 0);
    x.ends(15);
    due.is("worth 30", x.times(40, 30), 40);
    due.is("worth no more", x.times(40, 31), 0);
  }

  private static void times() {
    due.promise(37, "times");
    BridgeService none = quiet();
    due.is("none is worth anything", none.times(40, 0), 40);
    due.is("none is worth anything", none.times(40, 1), 0);
    int[][] wrong = {{0, 0}, {41, 0}, {-1, 0}, {1, -1}, {1, 1000}};
    for (int[] w : wrong) due.is("wrong", none.times(w[0], w[1]), BAD);
    due.is("least", none.times(1, 999), 0);
    int[] worth = worthByLots();
    BridgeService x = threePieces();
    for (int v = 0; v < 40; v++) {
      for (int n : new int[] {1, 2, 17, 40}) {
        int count = 0;
        for (int i = 0; i < n; i++) if (worth[i] >= v) count++;
        due.is(n + " times " + v, x.times(n, v), count);
      }
    }
    due.is("year", x.state(0), 1);
    due.is("z is as it was", x.seed(321), 321);
    x.ends(1);
    due.is("over", x.times(7, 0), 7);
    due.is("over", x.times(7, 1), 0);
    due.is("z is as it was", x.seed(321), 321);
  }
}
