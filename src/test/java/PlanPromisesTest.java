// Promises 24 to 30 and 38 to 41: plans, the game, rows.
public final class PlanPromisesTest {
  private static final Due due = new Due();
  private static final int BAD = -1, NONE = -3, NO_ROW = -9;

  public static void main(String[] args) {
    best();
    bestByMood();
    supper();
    bars();
    game();
    prove();
    rowsAltered();
    judge();
    due.end();
  }

  private static BridgeService quiet() {
    BridgeService x = new BridgeService();
    for (int y = 0; y < 16; y++) x.news(y, 3);
    return x;
  }

  // two dishes that span 0 to 3 and 4 to 7, both willing; MOOD 5 stays
  private static BridgeService twoDishes() {
    BridgeService x = quiet();
    x.plate(1, 0, 2, 0);
    x.plate(1, 4, 2, 0);
    return x;
  }

  private static void best() {
    due.promise(25, "ith");
    due.is("asked first", twoDishes().ith(2, 1), 2);
    due.promise(26, "ways");
    due.is("asked first", twoDishes().ways(3), 9);
    BridgeService x = twoDishes();
    // 18 by 3 years: 1 2 *, 1 0 2, 1 1 2, 0 1 2, 2 1 *
    int[] worth = {0, 9, 18, 18, 18};
    int[] ways = {1, 1, 1, 9};
    int[][] first = {{NONE, NONE, NONE, NONE}, {1, NONE, NONE, NONE}, {1, 2, NONE, NONE}, {0, 1, 2, NONE}, {0, 0, 1, 2}};
    for (int n = 0; n <= 4; n++) {
      due.promise(24, "best");
      due.is("of " + n, x.best(n), worth[n]);
      due.promise(25, "ith");
      for (int i = 0; i < 4; i++) due.is("of " + n + ", " + i, x.ith(n, i), first[n][i]);
      due.is("of " + n + ", 4", x.ith(n, 4), BAD);
      due.is("of " + n + ", -1", x.ith(n, -1), BAD);
      due.promise(26, "ways");
      if (n < 4) due.is("of " + n, x.ways(n), ways[n]);
    }
    for (int n : new int[] {-1, 5}) {
      due.promise(24, "best");
      due.is("of " + n, x.best(n), BAD);
      due.promise(25, "ith");
      due.is("of " + n, x.ith(n, 0), BAD);
      due.promise(26, "ways");
      due.is("of " + n, x.ways(n), BAD);
    }
    due.promise(24, "best");
    due.is("nothing went by", x.state(0), 0);
    due.is("none sits", x.state(4), 0);
    x.ends(2);
    due.is("fewer, if it is over", x.best(4), 18);
    due.promise(25, "ith");
    due.is("fewer, if it is over", x.ith(4, 0), 1);
    due.is("not so many", x.ith(4, 2), NONE);
    due.promise(26, "ways");
    due.is("fewer, if it is over", x.ways(4), 1);
    x.year();
    x.year();
    due.is("over", x.ways(4), 1);
    due.promise(24, "best");
    due.is("over", x.best(4), 0);
    due.promise(25, "ith");
    due.is("over", x.ith(4, 0), NONE);
  }

  // who would not sit, told nonetheless, makes MOOD less: it may be better to tell none, or one to leave
  private static void bestByMood() {
    BridgeService x = quiet();
    x.home(1, 0, 9);
    x.home(1, 1, 0);
    x.plate(1, 0, 9, 0);
    x.plate(2, 20, 9, 1);
    x.change(0, 4, 1);
    x.family(0, 2);
    Say.rules(x, "dish leave;");
    // 3 places by MOOD 2; the tureen would not sit: MOOD 1; the dish leaves: MOOD 3, and no place
    due.promise(24, "best");
    due.is("by telling none", x.best(1), 6);
    due.promise(25, "ith");
    due.is("by telling none", x.ith(1, 0), 0);
    due.promise(26, "ways");
    due.is("by telling none", x.ways(1), 1);
    Say.rules(x, "tureen leave;");
    due.is("the tureen or the dish told changes nothing", x.ways(1), 3);
  }

  private static void supper() {
    due.promise(27, "supper");
    BridgeService x = twoDishes();
    due.is("none by 0", x.supper(0, 0), 0);
    due.is("one by 0", x.supper(0, 1), NONE);
    due.is("one", x.supper(1, 2), 1);
    due.is("one by 4", x.supper(4, 2), 1);
    due.is("both by 1", x.supper(1, 3), NONE);
    due.is("both", x.supper(2, 3), 2);
    due.is("both by 4", x.supper(4, 3), 2);
    due.is("n 5", x.supper(5, 0), BAD);
    due.is("n -1", x.supper(-1, 0), BAD);
    due.is("no such piece", x.supper(1, 4), BAD);
    due.is("below 0", x.supper(1, -1), BAD);
    x.change(1, 4, 1);
    due.is("who sits already", x.supper(0, 2), 0);
    due.is("the other", x.supper(3, 3), 1);
    x.ends(1);
    x.change(1, 4, 0);
    due.is("fewer, if it is over", x.supper(4, 3), NONE);
    due.is("none sits", x.state(4), 0);
    // dishes don't sit ahead of the year 2, and leave from it on
    BridgeService y = twoDishes();
    Say.rules(y, "dish if year < 2 stand; dish if year > 2 leave;");
    due.is("in time", y.supper(3, 1), 1);
    due.is("too early", y.supper(2, 1), NONE);
    due.is("both", y.supper(4, 3), NONE);
    supperThenNone();
    supperByFewerBehindMore();
  }

  // the dish sits in the year 0 alone: 0 must come behind
  private static void supperThenNone() {
    BridgeService x = new BridgeService();
    x.plate(1, 0, 8, 0);
    Say.rules(x, "dish if year > 0 stand;");
    for (int n = 1; n <= 4; n++) due.is("told at once, then none, by " + n, x.supper(n, 1), 1);
  }

  // of plans of 2 (1, 2) comes ahead of (2, 0): dish 1 sits in the year 1 only if dish 0 has made MOOD less
  private static void supperByFewerBehindMore() {
    BridgeService x = new BridgeService();
    for (int y = 0; y < 4; y++) x.news(y, 3);
    x.home(0, 0, 4);
    x.plate(1, 0, 2, 0);
    x.plate(1, 0, 2, 1);
    Say.rules(x, "dish if number = 1 and year = 1 and mood > 4 stand;");
    due.is("the second one", x.supper(2, 2), 1);
    due.is("both", x.supper(2, 3), 2);
    due.is("the first one", x.supper(2, 1), 1);
  }

  private static void bars() {
    due.promise(28, "bars");
    BridgeService x = twoDishes();
    x.home(1, 0, 9);
    x.home(1, 1, 0);
    x.plate(1, 20, 0, 1);
    due.is("the third", x.bars(4, 7), 2);
    due.is("the third alone", x.bars(4, 4), 2);
    due.is("each is so behind some", x.bars(1, 3), NONE);
    due.is("none asked", x.bars(0, 0), NONE);
    due.is("by 0", x.bars(0, 3), 0);
    due.is("by 0", x.bars(0, 6), 1);
    due.is("n 5", x.bars(5, 0), BAD);
    due.is("n -1", x.bars(-1, 0), BAD);
    due.is("no such piece", x.bars(1, 8), BAD);
    due.is("below 0", x.bars(1, -1), BAD);
    x.change(0, 4, 1);
    due.is("who sits already", x.bars(0, 3), 1);
    due.is("who sits already", x.bars(0, 1), NONE);
    x.ends(1);
    x.year();
    due.is("over", x.bars(4, 3), NONE);
    due.is("over", x.bars(4, 7), 2);
    barsByEvenPlans();
  }

  // who stands in the year 1 is seated behind two of the four plans of 2: (1, 0) and (1, 1)
  private static void barsByEvenPlans() {
    BridgeService x = new BridgeService();
    x.plate(1, 0, 0, 0);
    Say.rules(x, "dish if year = 1 stand;");
    due.is("behind two of four plans", x.bars(2, 1), NONE);
    due.is("behind one of two plans", x.bars(1, 1), NONE);
    Say.rules(x, "dish if year = 0 stand; dish if year = 1 leave;");
    due.is("behind none of four plans", x.bars(2, 1), 0);
    due.is("behind some of eight plans", x.bars(3, 1), NONE);
  }

  private static void game() {
    BridgeService x = twoDishes();
    int[] values = {BAD, 9, 9, 18, 18, BAD};
    int[] plays = {BAD, 1, 1, 1, 1, BAD};
    for (int n = 0; n <= 5; n++) {
      due.promise(29, "game");
      due.is("of " + n, x.game(n), values[n]);
      due.promise(30, "play");
      due.is("of " + n, x.play(n), plays[n]);
    }
    due.is("of -1", x.play(-1), BAD);
    due.promise(29, "game");
    due.is("of -1", x.game(-1), BAD);
    due.is("nothing went by", x.state(0), 0);
    due.is("none sits", x.state(4), 0);
    x.ends(1);
    due.is("till it is over", x.game(4), 9);
    x.year();
    due.is("over", x.game(4), 0);
    due.promise(30, "play");
    due.is("over", x.play(4), NONE);
    due.is("BAD ahead of NONE", x.play(5), BAD);
    BridgeService z = twoDishes();
    z.family(1, 4);
    due.is("the last piece", z.play(1), 2);
    // the other one lets the seated dish leave, or tells who would not sit, so that she goes less far
    BridgeService y = quiet();
    y.home(1, 0, 9);
    y.home(1, 1, 0);
    y.plate(2, 20, 9, 1);
    y.plate(1, 0, 9, 0);
    y.change(1, 4, 1);
    y.family(0, 2);
    due.promise(29, "game");
    due.is("3 places, then 2", y.game(2), 10);
    due.promise(30, "play");
    due.is("none told", y.play(2), 0);
    Say.rules(y, "dish leave;");
    due.promise(29, "game");
    due.is("3 places, then none", y.game(2), 6);
    y.rules();
    y.family(0, 8);
    y.family(1, 8);
    due.is("the end is near", y.game(1), 4);
    due.promise(30, "play");
    due.is("the least of all that do", y.play(1), 0);
  }

  private static void prove() {
    due.promise(38, "prove");
    BridgeService x = twoDishes();
    due.is("n 5", x.prove(5), BAD);
    due.is("n -1", x.prove(-1), BAD);
    due.is("three", x.prove(3), 3);
    due.is("n 5", x.prove(5), BAD);
    due.is("rows stay", x.many(4), 3);
    due.promise(39, "row");
    int[][] rows = {{0, 0, 0}, {1, 9, 1}, {2, 9, 3}};
    for (int k = 0; k < 3; k++) {
      for (int what = 0; what < 3; what++) due.is("row " + k + ", " + what, x.row(k, what), rows[k][what]);
    }
    int[][] none = {{3, 0}, {-1, 0}, {0, 3}, {0, -1}, {3, 3}, {Integer.MAX_VALUE, 0}, {Integer.MIN_VALUE, 2}};
    for (int[] w : none) due.is("none such", x.row(w[0], w[1]), NO_ROW);
    due.promise(38, "prove");
    due.is("nothing went by", x.state(0), 0);
    due.is("none sits", x.state(4), 0);
    due.is("four", x.prove(4), 4);
    due.is("the last of four", x.row(3, 2), 3);
    due.is("fewer", x.prove(1), 1);
    due.promise(39, "row");
    due.is("the only one", x.row(0, 1), 9);
    due.is("none such", x.row(1, 1), NO_ROW);
    due.promise(38, "prove");
    due.is("none", x.prove(0), 0);
    due.is("rows", x.many(4), 0);
    x.ends(1);
    due.is("fewer, if it is over", x.prove(4), 1);
    x.year();
    due.is("over", x.prove(4), 0);
    due.is("rows", x.many(4), 0);
  }

  private static void rowsAltered() {
    due.promise(40, "alterRow");
    BridgeService x = twoDishes();
    due.is("none such", x.alterRow(0, 0, 1), NO_ROW);
    x.prove(2);
    due.is("act", x.alterRow(0, 0, -5), 1);
    due.is("worth", x.alterRow(1, 1, Integer.MAX_VALUE), 9);
    due.is("those seated", x.alterRow(1, 2, 64), 3);
    due.is("act", x.row(0, 0), -5);
    due.is("worth", x.row(1, 1), Integer.MAX_VALUE);
    due.is("those seated", x.row(1, 2), 64);
    due.is("another one stays", x.row(0, 1), 9);
    due.is("again", x.alterRow(0, 0, -9), -5);
    due.is("it is -9", x.row(0, 0), NO_ROW);
    int[][] none = {{2, 0}, {-1, 0}, {0, 3}, {0, -1}};
    for (int[] w : none) due.is("none such", x.alterRow(w[0], w[1], 7), NO_ROW);
  }

  private static void judge() {
    due.promise(41, "judge");
    BridgeService x = twoDishes();
    due.is("no rows", x.judge(), 0);
    x.prove(3);
    due.is("right", x.judge(), 0);
    int[][] wrong = {{0, 0, -1}, {0, 0, 3}, {0, 0, 1}, {0, 1, 1}, {0, 2, 2}, {1, 0, 2}, {1, 1, 8}, {1, 2, 0}, {2, 0, 0}, {2, 1, -9}, {2, 2, 67}};
    for (int[] w : wrong) {
      int was = x.alterRow(w[0], w[1], w[2]);
      due.is("row " + w[0] + ", " + w[1] + " is " + w[2], x.judge(), w[0] + 1);
      x.alterRow(w[0], w[1], was);
    }
    due.is("right again", x.judge(), 0);
    x.alterRow(2, 1, 0);
    x.alterRow(1, 1, 0);
    due.is("the first of two", x.judge(), 2);
    x.prove(3);
    due.is("nothing went by", x.state(0), 0);
    // another act that comes to the same is right as well
    x.alterRow(1, 0, 1);
    due.is("right", x.judge(), 0);
    x.year();
    due.is("from how it is now", x.judge(), 1);
    x.anew();
    due.is("as it was", x.judge(), 0);
    x.ends(2);
    due.is("over ahead of the third", x.judge(), 3);
    x.ends(12);
    // worth 13 by another order, if rows tell so
    int[][] rows = {{2, 1, 2}, {1, 13, 3}, {0, 4, 3}};
    for (int k = 0; k < 3; k++) {
      for (int what = 0; what < 3; what++) x.alterRow(k, what, rows[k][what]);
    }
    due.is("any plan may be right", x.judge(), 0);
  }
}
