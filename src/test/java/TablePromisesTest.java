// Promises 1 to 12 and 51 to 53: the table and its pieces, how many, what is kept.
public final class TablePromisesTest {
  private static final Due due = new Due();
  private static final int BAD = -1, FULL = -2, NONE = -3, STATE = -4;

  public static void main(String[] args) {
    newObject();
    plate();
    plateOf();
    spansByYears();
    grudges();
    change();
    changeOfEach();
    remake();
    news();
    home();
    family();
    ends();
    anew();
    state();
    many();
    kept();
    keptReports();
    keptApart();
    due.end();
  }

  private static void newObject() {
    due.promise(1, "a new object");
    BridgeService x = new BridgeService();
    for (int what = 0; what <= 6; what++) due.is("many " + what, x.many(what), 0);
    int[] states = {0, 12, 0, 0, 0, 4, 5, 0};
    for (int what = 0; what < states.length; what++) due.is("state " + what, x.state(what), states[what]);
    for (int f = 0; f < 6; f++) {
      due.is("anger", x.homeOf(f, 0), 0);
      due.is("welcome", x.homeOf(f, 1), 3);
    }
    for (int y = 0; y < 16; y++) due.is("news", x.news(y, y), 4);
    due.is("z", x.seed(9), 1);
    due.is("again", x.again(), NONE);
    for (int s = 0; s < 4; s++) {
      due.is("item of a missing sheet", x.item(s, 0, 0), -11);
      due.is("taken of nothing", x.taken(s, 0), -11);
    }
    due.is("row", x.row(0, 0), -9);
    due.is("trace", x.trace(0), NONE);
  }

  private static void plate() {
    due.promise(2, "plate");
    BridgeService x = new BridgeService();
    int[][] wrong = {{0, 0, 0, 0}, {6, 0, 0, 0}, {-1, 0, 0, 0}, {1, -1, 0, 0}, {1, 40, 0, 0}, {1, 0, -1, 0}, {1, 0, 10, 0}, {1, 0, 0, -1}, {1, 0, 0, 6},
        {Integer.MIN_VALUE, 0, 0, 0}, {1, Integer.MAX_VALUE, 0, 0}};
    for (int[] w : wrong) due.is("a wrong plate", x.plate(w[0], w[1], w[2], w[3]), BAD);
    due.is("pieces", x.many(0), 0);
    due.is("least of all", x.plate(1, 0, 0, 0), 0);
    due.is("greatest of all", x.plate(5, 39, 9, 5), 1);
    for (int k = 2; k < 6; k++) due.is("next", x.plate(k, k, k, k - 1), k);
    due.is("the seventh", x.plate(1, 0, 0, 0), FULL);
    due.is("BAD ahead of FULL", x.plate(0, 0, 0, 0), BAD);
    due.is("pieces", x.many(0), 6);
    due.is("none sits", x.state(4), 0);
    int[] last = {5, 5, 5, 4};
    for (int what = 0; what < 4; what++) due.is("of the last", x.plateOf(5, what), last[what]);
    int[] second = {5, 39, 9, 5};
    for (int what = 0; what < 4; what++) due.is("of the second", x.plateOf(1, what), second[what]);
  }

  private static void plateOf() {
    due.promise(3, "plateOf");
    BridgeService x = new BridgeService();
    due.is("no piece", x.plateOf(0, 0), BAD);
    x.home(2, 0, 6);
    x.plate(1, 7, 5, 2);
    int[] all = {1, 7, 5, 2, 0, 6, 8, 1, 0};
    for (int what = 0; what < all.length; what++) due.is("what " + what, x.plateOf(0, what), all[what]);
    due.is("what 9", x.plateOf(0, 9), BAD);
    due.is("what -1", x.plateOf(0, -1), BAD);
    due.is("piece -1", x.plateOf(-1, 0), BAD);
    due.is("piece 1", x.plateOf(1, 0), BAD);
    due.is("piece 6", x.plateOf(6, 0), BAD);
    x.family(0, 4);
    due.is("grudge 8, mood and welcome 7", x.plateOf(0, 7), 0);
    x.home(2, 1, 4);
    due.is("grudge 8, mood and welcome 8", x.plateOf(0, 7), 1);
    x.change(0, 4, 1);
    due.is("who sits would not sit", x.plateOf(0, 7), 0);
    due.is("seated", x.plateOf(0, 4), 1);
    Say.rules(x, "dish if mood = 4 leave; plate stand;");
    due.is("will leave", x.plateOf(0, 8), 2);
    x.family(0, 5);
    due.is("will stand", x.plateOf(0, 8), 1);
    due.is("nothing went by", x.state(4), 1);
  }

  // by widths 0, 5, 9 in YEARS 0 to 6: asked while nobody sits
  private static void spansByYears() {
    due.promise(3, "plateOf, spans");
    int[][] dish = {{2, 6, 10}, {2, 6, 10}, {2, 6, 10}, {2, 6, 10}, {2, 6, 10}, {2, 6, 10}, {2, 6, 10}};
    int[][] tureen = {{3, 5, 7}, {3, 5, 7}, {3, 5, 7}, {3, 5, 7}, {3, 5, 7}, {3, 5, 7}, {3, 5, 7}};
    int[][] boat = {{3, 5, 7}, {1, 1, 1}, {3, 5, 7}, {1, 1, 1}, {3, 5, 7}, {1, 1, 1}, {3, 5, 7}};
    int[][] saucer = {{1, 2, 2}, {1, 2, 2}, {1, 2, 2}, {1, 2, 2}, {1, 2, 2}, {1, 2, 2}, {1, 2, 2}};
    int[][] cracked = {{0, 0, 0}, {1, 2, 2}, {1, 2, 2}, {0, 0, 0}, {1, 2, 2}, {1, 2, 2}, {0, 0, 0}};
    int[][][] kinds = {dish, tureen, boat, saucer, cracked};
    int[] widths = {0, 5, 9};
    for (int kind = 1; kind <= 5; kind++) {
      BridgeService x = new BridgeService();
      for (int w : widths) x.plate(kind, 39, w, 0);
      Say.rules(x, "plate stand;");
      for (int year = 0; year < 7; year++) {
        for (int k = 0; k < 3; k++) due.is("kind " + kind + ", width " + widths[k] + ", year " + year, x.plateOf(k, 5), kinds[kind - 1][year][k]);
        x.year();
      }
    }
  }

  private static void grudges() {
    due.promise(3, "plateOf, grudges");
    // by ANGER 0, 5 and 9: piece number is kind - 1
    int[][] grudges = {{2, 1, 0, 0, 0}, {7, 6, 4, 2, 4}, {11, 10, 8, 4, 8}};
    int[] angers = {0, 5, 9};
    BridgeService x = new BridgeService();
    for (int kind = 1; kind <= 5; kind++) x.plate(kind, 0, 0, 1);
    x.plate(3, 0, 0, 1);
    for (int i = 0; i < 3; i++) {
      x.home(1, 0, angers[i]);
      for (int k = 0; k < 5; k++) due.is("piece " + k + " by anger " + angers[i], x.plateOf(k, 6), grudges[i][k]);
      due.is("a boat of number 5", x.plateOf(5, 6), angers[i] + 2);
    }
  }

  private static void change() {
    due.promise(4, "change");
    BridgeService x = new BridgeService();
    due.is("no piece", x.change(0, 1, 1), BAD);
    x.plate(2, 3, 4, 5);
    due.is("first", x.change(0, 1, 39), 3);
    due.is("first again", x.change(0, 1, 0), 39);
    due.is("width", x.change(0, 2, 0), 4);
    due.is("width again", x.change(0, 2, 9), 0);
    due.is("home", x.change(0, 3, 0), 5);
    due.is("seated", x.change(0, 4, 1), 0);
    due.is("seated still", x.change(0, 4, 1), 1);
    int[] now = {2, 0, 9, 0, 1};
    for (int what = 0; what < 5; what++) due.is("now " + what, x.plateOf(0, what), now[what]);
    due.is("mood stays", x.state(6), 5);
    int[][] wrong = {{0, 1, -1}, {0, 1, 40}, {0, 2, -1}, {0, 2, 10}, {0, 3, -1}, {0, 3, 6}, {0, 4, -1}, {0, 4, 2}, {0, 0, 1}, {0, 5, 1}, {0, 6, 1}, {0, 7, 0}, {-1, 1, 1}, {1, 1, 1}};
    for (int[] w : wrong) due.is("wrong " + w[0] + " " + w[1] + " " + w[2], x.change(w[0], w[1], w[2]), BAD);
    for (int what = 0; what < 5; what++) due.is("still " + what, x.plateOf(0, what), now[what]);
    due.is("gets up", x.change(0, 4, 0), 1);
    due.is("none sits", x.state(4), 0);
  }

  // each of six pieces answers what was its own, and the others stay
  private static void changeOfEach() {
    due.promise(4, "change of each");
    BridgeService x = new BridgeService();
    int[][] now = {{0, 1, 2, 3, 0}, {0, 6, 3, 4, 0}, {0, 11, 4, 5, 0}, {0, 16, 5, 0, 0}, {0, 21, 6, 1, 0}, {0, 26, 7, 2, 0}};
    for (int[] piece : now) x.plate(1, piece[1], piece[2], piece[3]);
    int[] to = {0, 39, 9, 5, 1};
    for (int k = 0; k < 6; k++) {
      for (int what = 1; what <= 4; what++) {
        due.is("what " + what + " of " + k, x.change(k, what, to[what]), now[k][what]);
        due.is("what " + what + " of " + k + ", again", x.change(k, what, to[what]), to[what]);
        now[k][what] = to[what];
        for (int other = 0; other < 6; other++) due.is("what " + what + " of " + other, x.plateOf(other, what), now[other][what]);
      }
    }
    for (int k = 0; k < 6; k++) {
      due.is("sat, " + k, x.change(k, 4, 0), 1);
      due.is("stood, " + k, x.change(k, 4, 0), 0);
    }
  }

  private static void remake() {
    due.promise(5, "remake");
    BridgeService x = new BridgeService();
    due.is("no piece", x.remake(0, 1), BAD);
    x.plate(1, 3, 4, 5);
    x.change(0, 4, 1);
    due.is("to boat", x.remake(0, 3), 1);
    due.is("to cracked", x.remake(0, 5), 3);
    due.is("plate", x.remake(0, 0), BAD);
    due.is("6", x.remake(0, 6), BAD);
    due.is("piece -1", x.remake(-1, 1), BAD);
    int[] now = {5, 3, 4, 5, 1};
    for (int what = 0; what < 5; what++) due.is("now " + what, x.plateOf(0, what), now[what]);
  }

  private static void news() {
    due.promise(6, "news");
    BridgeService x = new BridgeService();
    due.is("first year", x.news(0, 15), 4);
    due.is("and back", x.news(0, 0), 15);
    due.is("last year", x.news(15, 7), 4);
    int[][] wrong = {{-1, 0}, {16, 0}, {0, -1}, {0, 16}};
    for (int[] w : wrong) due.is("wrong", x.news(w[0], w[1]), BAD);
    due.is("first year is as it was", x.news(0, 3), 0);
    due.is("last year is as it was", x.news(15, 3), 7);
    // mood by each NEWS: from 5, from 0, from 9, from 4, from 7
    int[] from = {5, 0, 9, 4, 7};
    int[][] behind = {
        {5, 0, 9, 4, 7}, {5, 0, 9, 4, 7}, {5, 0, 9, 4, 7}, {5, 0, 9, 4, 7},
        {6, 1, 9, 5, 8}, {4, 0, 8, 3, 6}, {5, 1, 8, 5, 6}, {5, 0, 9, 4, 7},
        {7, 2, 9, 6, 9}, {3, 0, 7, 2, 5}, {5, 2, 7, 5, 5}, {5, 0, 9, 4, 7},
        {8, 3, 9, 7, 9}, {2, 0, 6, 1, 4}, {5, 3, 6, 5, 5}, {5, 0, 9, 4, 7}};
    for (int v = 0; v < 16; v++) {
      for (int i = 0; i < from.length; i++) {
        x.anew();
        x.news(0, v);
        x.family(0, from[i]);
        x.year();
        due.is("mood from " + from[i] + " by news " + v, x.state(6), behind[v][i]);
      }
    }
  }

  private static void home() {
    due.promise(7, "home");
    BridgeService x = new BridgeService();
    due.is("anger", x.home(0, 0, 9), 0);
    due.is("anger back", x.home(0, 0, 1), 9);
    due.is("welcome", x.home(5, 1, 0), 3);
    int[][] wrong = {{-1, 0, 0}, {6, 0, 0}, {0, -1, 0}, {0, 2, 0}, {0, 0, -1}, {0, 0, 10}, {0, 1, 10}, {0, 1, -1}};
    for (int[] w : wrong) due.is("wrong", x.home(w[0], w[1], w[2]), BAD);
    due.promise(8, "homeOf");
    due.is("anger", x.homeOf(0, 0), 1);
    due.is("welcome of it", x.homeOf(0, 1), 3);
    due.is("anger of another", x.homeOf(5, 0), 0);
    due.is("welcome", x.homeOf(5, 1), 0);
    int[][] none = {{-1, 0}, {6, 0}, {0, -1}, {0, 2}};
    for (int[] w : none) due.is("wrong", x.homeOf(w[0], w[1]), BAD);
  }

  private static void family() {
    due.promise(9, "family");
    BridgeService x = new BridgeService();
    due.is("mood", x.family(0, 9), 5);
    due.is("mood back", x.family(0, 0), 9);
    due.is("she", x.family(1, 40), 0);
    due.is("she back", x.family(1, 10), 40);
    int[][] wrong = {{0, 10}, {0, -1}, {1, 41}, {1, -1}, {2, 0}, {-1, 0}};
    for (int[] w : wrong) due.is("wrong", x.family(w[0], w[1]), BAD);
    due.is("mood now", x.state(6), 0);
    due.is("she now", x.state(7), 10);
  }

  private static void ends() {
    due.promise(10, "ends");
    BridgeService x = new BridgeService();
    due.is("16", x.ends(16), 12);
    due.is("0", x.ends(0), BAD);
    due.is("17", x.ends(17), BAD);
    x.year();
    x.year();
    due.is("below the year", x.ends(1), STATE);
    due.is("0 ahead of STATE", x.ends(0), BAD);
    due.is("the end", x.state(1), 16);
    due.is("the year itself", x.ends(2), 16);
    due.is("over", x.state(3), 1);
    due.is("no more", x.year(), STATE);
    due.is("one more", x.ends(3), 2);
    due.is("goes on", x.year(), 0);
  }

  private static void anew() {
    due.promise(11, "anew");
    BridgeService x = new BridgeService();
    due.is("at first", x.anew(), 0);
    x.plate(1, 0, 0, 0);
    x.plate(1, 2, 0, 0);
    x.ends(9);
    x.home(0, 0, 1);
    x.news(3, 1);
    x.seed(8);
    x.report(0, 0, 0, 0);
    x.year();
    x.year();
    due.is("mood ahead of it", x.family(0, 8), 5);
    due.is("behind two years", x.anew(), 2);
    int[] states = {0, 9, 0, 0, 0, 4, 5, 0};
    for (int what = 0; what < states.length; what++) due.is("state " + what, x.state(what), states[what]);
    due.is("pieces stay", x.many(0), 2);
    due.is("reports stay", x.many(3), 1);
    due.is("homes stay", x.homeOf(0, 0), 1);
    due.is("news stay", x.news(3, 4), 1);
    due.is("z stays", x.seed(1), 8);
  }

  private static void state() {
    due.promise(12, "state");
    BridgeService x = new BridgeService();
    x.plate(1, 0, 0, 0);
    x.plate(1, 2, 0, 0);
    x.plate(1, 4, 0, 0);
    x.ends(16);
    x.news(2, 9);
    due.is("what -1", x.state(-1), BAD);
    due.is("what 8", x.state(8), BAD);
    x.change(2, 4, 1);
    x.year();
    x.year();
    int[] states = {2, 16, 14, 0, 7, 9, 7, 6};
    for (int what = 0; what < states.length; what++) due.is("state " + what, x.state(what), states[what]);
    for (int y = 2; y < 15; y++) x.year();
    x.news(15, 11);
    due.is("news of the year 15", x.state(5), 11);
    due.is("not over", x.state(3), 0);
    x.year();
    due.is("the year 16", x.state(0), 16);
    due.is("no news behind the year 15", x.state(5), 0);
    due.is("over", x.state(3), 1);
  }

  private static void many() {
    due.promise(51, "many");
    BridgeService x = new BridgeService();
    x.plate(1, 0, 0, 0);
    x.plate(1, 2, 0, 0);
    x.plate(5, 2, 0, 0);
    x.change(0, 4, 1);
    x.change(2, 4, 1);
    Say.rules(x, "dish sit;dish stand;plate leave;saucer sit;");
    for (int i = 0; i < 5; i++) x.report(i, 0, 0, 40);
    x.prove(3);
    x.feed(0L, 7);
    x.shelf(0, 0, 2);
    x.act(0, 3, 5);
    int[] all = {3, 4, 2, 5, 3, 7, 8};
    // cracked of number 2 and home 0: 13, 60, 11, 10, 61, 40, 12, 10
    for (int what = 0; what < all.length; what++) due.is("many " + what, x.many(what), all[what]);
    due.is("another", x.many(7), BAD);
    due.is("another", x.many(-1), BAD);
  }

  private static void kept() {
    BridgeService x = new BridgeService();
    due.promise(53, "again");
    due.is("nothing is kept", x.again(), NONE);
    due.is("nothing changed", x.state(1), 12);
    x.plate(2, 3, 4, 1);
    x.plate(1, 0, 6, 2);
    x.home(1, 0, 6);
    x.home(2, 1, 2);
    x.news(0, 2);
    x.ends(10);
    x.seed(44);
    x.report(3, 1, 2, 9);
    Say.rules(x, "tureen if mood > 6 stand; dish sit;");
    x.year();
    due.promise(52, "keep");
    due.is("keep", x.keep(), 1);
    int[] states = new int[8];
    for (int what = 0; what < 8; what++) states[what] = x.state(what);
    int rest = x.on(16);
    int lost = x.lost(0);
    for (int time = 0; time < 2; time++) {
      spoil(x);
      due.promise(53, "again");
      due.is("again", x.again(), 2);
      for (int what = 0; what < 8; what++) due.is("state " + what, x.state(what), states[what]);
      int[] first = {2, 3, 4, 1};
      int[] second = {1, 0, 6, 2};
      for (int what = 0; what < 4; what++) {
        due.is("first piece", x.plateOf(0, what), first[what]);
        due.is("second piece", x.plateOf(1, what), second[what]);
      }
      due.is("anger", x.homeOf(1, 0), 6);
      due.is("welcome", x.homeOf(2, 1), 2);
      due.is("rules", x.many(1), 2);
      due.is("reports", x.many(3), 1);
      due.is("lost", x.lost(0), lost);
      due.is("z", x.seed(44), 44);
      due.is("the rest", x.on(16), rest);
      due.is("will by the rule", x.plateOf(0, 8), x.state(6) > 6 ? 1 : 0);
      x.family(0, 7);
      due.is("will by the rule and mood", x.plateOf(0, 8), 1);
    }
    due.promise(52, "keep");
    x.again();
    x.year();
    due.is("kept anew", x.keep(), 1);
    x.year();
    due.is("again", x.again(), 2);
    due.is("the latest is kept", x.state(0), 2);
  }

  private static void spoil(BridgeService x) {
    x.year();
    x.plate(5, 5, 5, 5);
    x.remake(0, 1);
    x.change(0, 1, 20);
    x.change(0, 2, 0);
    x.change(1, 3, 0);
    x.home(1, 0, 0);
    x.home(2, 1, 9);
    for (int y = 0; y < 16; y++) x.news(y, 13);
    x.ends(14);
    x.family(0, 0);
    x.family(1, 33);
    x.lot();
    x.forget();
    x.report(1, 0, 7, 7);
    x.report(1, 1, 7, 7);
    Say.rules(x, "plate leave; plate if year < 9 and mood = 1 sit; saucer sit;");
  }

  // MOOD is 3 worse in the year 3; the counts are worked out from the terms
  private static BridgeService worseInYear3() {
    BridgeService x = new BridgeService();
    for (int y = 0; y < 16; y++) x.news(y, y == 3 ? 13 : 3);
    return x;
  }

  // each REPORT comes again with its YEARS, with what is asked, with LEAST and MOST
  private static void keptReports() {
    // MOOD 0 to 4 behind 3 years; AT 1 behind 4 years: saucers of 1 place; 2 or more behind one year
    int[][] reports = {{3, 1, 0, 4}, {4, 0, 1, 1}, {1, 0, 2, 40}};
    int[] fit = {250, 40, 342};
    BridgeService all = worseInYear3();
    for (int i = 0; i < reports.length; i++) {
      int[] r = reports[i];
      BridgeService x = worseInYear3();
      due.promise(52, "keep, reports");
      due.is("reported", x.report(r[0], r[1], r[2], r[3]), 0);
      all.report(r[0], r[1], r[2], r[3]);
      due.is("fit by report " + i, x.lost(0), fit[i]);
      x.keep();
      x.forget();
      x.report(2, 1, 7, 8);
      x.report(0, 0, 3, 9);
      due.is("none fits meanwhile", x.lost(0), 0);
      due.promise(53, "again, reports");
      x.again();
      due.is("fit again by report " + i, x.lost(0), fit[i]);
      due.is("one again", x.many(3), 1);
    }
    // but for AT 1 the others fit together; but for the first or the last it stands against one of them
    due.is("the liar", all.liar(), 1);
    all.keep();
    all.forget();
    all.report(0, 0, 3, 9);
    due.is("the liar meanwhile", all.liar(), 0);
    all.again();
    due.is("the liar again", all.liar(), 1);
  }

  // THE TAPE, ROWS, SHEETS, SHELVES and THE TRACE are not kept
  private static void keptApart() {
    due.promise(52, "keep, what isn't kept");
    BridgeService x = new BridgeService();
    x.keep();
    x.plate(5, 0, 2, 4);
    x.feed(0x3B6465L, 3);
    x.prove(2);
    x.sheet(1, 2, 5);
    x.write(1, 4, 77);
    x.shelf(0, 0, 0);
    x.shelf(1, 1, 1);
    x.act(0, 0, 3);
    due.promise(53, "again, what isn't kept");
    due.is("again", x.again(), 0);
    due.is("tape", x.many(5), 3);
    due.is("rows", x.many(4), 2);
    due.is("sheet", x.item(1, 2, 4), 77);
    due.is("trace", x.trace(0), 10);
    due.is("a shelf with a row", x.taken(1, 12), 5);
    due.is("a shelf with a piece that is away", x.taken(0, 0), -11);
    due.is("act of what is away", x.act(0, 0, 3), 0);
    due.is("no trace then", x.many(6), 0);
    x.plate(1, 0, 0, 0);
    due.is("another piece of that number came", x.taken(0, 1), 0);
    due.is("its act", x.act(0, 0, 3), 18);
  }
}
