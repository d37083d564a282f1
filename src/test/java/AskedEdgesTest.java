import java.util.List;

// The sentences of the document that name a boundary of what is asked: Terms 3, and the promises 16 to 41.
public final class AskedEdgesTest {
  private static final Due due = new Due();
  private static final int BAD = -1, FULL = -2, NONE = -3, STATE = -4, NO_ROW = -9;

  public static void main(String[] args) {
    changesNothing();
    theRest();
    noneWould();
    on();
    when();
    widthFor();
    pieceFor();
    over();
    gapLeast();
    gapCount();
    close();
    branches();
    fetching();
    plans();
    firstOfBest();
    worthless();
    supper();
    bars();
    game();
    play();
    reports();
    behindYears();
    lostPieces();
    lostLeast();
    liar();
    seed();
    lot();
    times();
    prove();
    alterRow();
    reader();
    due.end();
  }

  // no news, so that MOOD changes by PIECES alone
  private static BridgeService quiet() {
    BridgeService x = new BridgeService();
    for (int y = 0; y < 16; y++) x.news(y, 3);
    return x;
  }

  // two dishes that span 0 to 3 and 4 to 7, both willing; MOOD 5 stays
  private static BridgeService twoDishes() {
    BridgeService x = quiet();
    x.plate(1, 0, 2, 0);
    x.plate(1, 4, 2, 0);
    return x;
  }

  private static void changesNothing() {
    due.sentence("What is asked changes nothing, if not told.");
    List<Twins.Making> makings = List.of(Twins::bare, Twins::some, Twins::full, Twins::over, Twins::lying);
    List<Twins.Call> asked = List.of(x -> x.plateOf(0, 5), x -> x.plateOf(0, 8), x -> x.homeOf(0, 0), x -> x.state(2), x -> x.on(0), x -> x.on(1), x -> x.on(16), x -> x.when(2),
        x -> x.when(4), x -> x.widthFor(0), x -> x.widthFor(4), x -> x.pieceFor(1), x -> x.pieceFor(3), x -> x.over(0), x -> x.over(9), x -> x.over(40), x -> x.gap(0),
        x -> x.gap(1), x -> x.branches(-1), x -> x.branches(2), x -> x.fetch(0, 0), x -> x.fetch(40, 1), x -> x.best(0), x -> x.best(4), x -> x.ith(4, 0), x -> x.ways(4),
        x -> x.supper(4, 1), x -> x.supper(0, 31), x -> x.bars(4, 31), x -> x.bars(0, 1), x -> x.game(1), x -> x.game(4), x -> x.play(1), x -> x.play(4), x -> x.lost(0),
        x -> x.lost(3), x -> x.liar(), x -> x.times(1, 0), x -> x.times(40, 999), x -> x.row(0, 0), x -> x.judge(), x -> x.item(0, 0, 0), x -> x.wouldBe(0, 0, 0),
        x -> x.wouldBe(0, 0, 4), x -> x.wouldBe(0, 0, 20), x -> x.taken(0, 3), x -> x.trace(0), x -> x.many(0), x -> x.many(5));
    for (int m = 0; m < makings.size(); m++) {
      List<Integer> as = Twins.all(makings.get(m).make());
      for (int i = 0; i < asked.size(); i++) {
        BridgeService x = makings.get(m).make();
        int once = asked.get(i).on(x);
        due.is("asked twice, " + i + " of " + m, asked.get(i).on(x), once);
        due.is("asked " + i + " of " + m + " changes nothing", Twins.all(x).equals(as) ? 1 : 0, 1);
      }
    }
  }

  private static void theRest() {
    due.sentence("THE REST: all YEARS yet, in each, behind (1), the least PIECE being told that WOULD sit");
    BridgeService x = quiet();
    x.plate(1, 20, 0, 0);
    x.plate(1, 30, 0, 1);
    // GRUDGE 11 of the first one: it would sit by MOOD 8 and WELCOME 3, behind the news of the year 0
    x.home(0, 0, 9);
    x.news(0, 12);
    due.is("would not sit as it is", x.plateOf(0, 7), 0);
    due.is("the least is told first", x.when(0), 0);
    due.is("the other one then", x.when(1), 1);
    x.news(0, 3);
    due.is("the other one first", x.when(1), 0);
    due.is("the least never", x.when(0), NONE);
    // who would sit as it is, and would not behind the news
    x.family(0, 8);
    x.news(0, 5);
    due.is("would sit as it is", x.plateOf(0, 7), 1);
    due.is("is not told behind the news", x.when(1), 0);
    // the least that would is told, and stands, each year anew
    BridgeService y = quiet();
    y.plate(1, 20, 0, 0);
    y.plate(2, 30, 0, 0);
    Say.rules(y, "dish if year < 3 stand;");
    due.is("the least stands", y.when(0), 3);
    due.is("none else is told meanwhile", y.when(1), 4);
    Say.rules(y, "dish stand;");
    due.is("none ever sits", y.when(1), NONE);
    due.is("nor in the years themselves", y.year() + y.year() + y.state(4), 0);
    Say.rules(y, "dish leave;");
    due.is("who isn't seated has nothing to leave", y.year() + y.state(4), 0);
    due.is("mood", y.state(6), 5);
  }

  private static void noneWould() {
    due.sentence("(none, if there is none)");
    BridgeService x = quiet();
    due.is("no pieces", x.year(), 0);
    x.plate(1, 20, 0, 0);
    x.home(0, 0, 9);
    x.home(0, 1, 0);
    due.is("none would", x.year(), 0);
    due.is("MOOD stays, none was told", x.state(6), 5);
    x.change(0, 4, 1);
    Say.rules(x, "plate leave;");
    due.is("all are seated", x.year(), 0);
    due.is("none was told to leave", x.state(4), 1);
    due.is("mood", x.state(6), 5);
  }

  private static void on() {
    due.sentence("What n (0 to 16) YEARS of THE REST (fewer, if it is OVER) are WORTH.");
    BridgeService x = quiet();
    for (int k = 0; k < 4; k++) x.plate(1, 10 * k, 9, 0);
    x.ends(16);
    // each year 6 places by MOOD 5, to 40: 12 and 1 for who sits
    int[] worth = {0, 13, 26, 39, 52, 64, 76, 84, 84, 84, 84, 84, 84, 84, 84, 84, 84};
    for (int n = 0; n <= 16; n++) due.is("on " + n, x.on(n), worth[n]);
    for (int end = 1; end <= 16; end++) {
      x.ends(end);
      due.is("on 16, end " + end, x.on(16), worth[end]);
      due.is("on as many as there are, end " + end, x.on(end), worth[end]);
      due.is("on one less, end " + end, x.on(end - 1), worth[end - 1]);
    }
    for (int y = 0; y < 16; y++) x.year();
    for (int n = 0; n <= 16; n++) due.is("over, on " + n, x.on(n), 0);
  }

  private static void when() {
    due.sentence("The first YEAR of THE REST behind which a PIECE is SEATED. BAD; NONE (also if it is now).");
    BridgeService x = quiet();
    for (int k = 0; k < 6; k++) x.plate(1, 30, 0, 0);
    x.ends(5);
    for (int k = 0; k < 6; k++) due.is("piece " + k, x.when(k), k < 5 ? k : NONE);
    x.ends(6);
    due.is("in the last year", x.when(5), 5);
    x.change(0, 4, 1);
    due.is("it is now", x.when(0), NONE);
    due.is("one year earlier", x.when(5), 4);
    x.year();
    due.is("from the year 1 on", x.when(5), 4);
    due.is("it is now", x.when(1), NONE);
    x.ends(1);
    for (int k = 0; k < 6; k++) due.is("over, piece " + k, x.when(k), NONE);
    BridgeService y = quiet();
    y.ends(16);
    y.plate(1, 30, 0, 0);
    Say.rules(y, "dish if year < 15 stand;");
    due.is("in the year 15", y.when(0), 15);
  }

  private static void widthFor() {
    due.sentence("WIDTH with which a PIECE makes THE REST WORTH most; of several the least.");
    BridgeService x = quiet();
    x.plate(1, 0, 5, 0);
    due.is("the widest, 8 and 9 alike", x.widthFor(0), 8);
    due.is("it stays", x.plateOf(0, 2), 5);
    x.remake(0, 4);
    due.is("a saucer spans two at most", x.widthFor(0), 2);
    x.change(0, 1, 39);
    due.is("never reached", x.widthFor(0), 0);
    x.family(1, 39);
    due.is("one place is enough", x.widthFor(0), 0);
    x.change(0, 1, 38);
    due.is("the second place is needed", x.widthFor(0), 2);
    x.change(0, 2, 9);
    x.ends(1);
    x.year();
    due.is("over: all alike", x.widthFor(0), 0);
    due.is("it stays", x.plateOf(0, 2), 9);
    // WIDTH 0 may be best, where RULES tell by it
    BridgeService y = quiet();
    y.plate(1, 0, 4, 0);
    Say.rules(y, "dish if width > 0 stand;");
    due.is("the least itself", y.widthFor(0), 0);
    Say.rules(y, "dish if width < 9 stand;");
    due.is("the greatest itself", y.widthFor(0), 9);
    Say.rules(y, "dish if width < 4 or width > 4 stand;");
    due.is("as it is", y.widthFor(0), 4);
  }

  private static void pieceFor() {
    due.sentence("FIRST place likewise.");
    BridgeService x = quiet();
    x.plate(4, 5, 0, 0);
    for (int at : new int[] {0, 1, 20, 38, 39}) {
      x.family(1, at);
      due.is("a saucer of one place, from " + at, x.pieceFor(0), at);
    }
    x.family(1, 40);
    due.is("across: all alike", x.pieceFor(0), 0);
    x.family(1, 20);
    x.change(0, 2, 2);
    due.is("two places", x.pieceFor(0), 20);
    x.family(1, 39);
    due.is("two places, the second one of which is 39", x.pieceFor(0), 38);
    x.remake(0, 1);
    x.change(0, 2, 9);
    due.is("ten places, the last one of which is 39", x.pieceFor(0), 30);
    due.is("it stays", x.plateOf(0, 1), 5);
    x.ends(1);
    x.year();
    due.is("over: all alike", x.pieceFor(0), 0);
  }

  private static void over() {
    due.sentence("OVER a PLACE: the first YEAR of THE REST behind which SHE is AT it, or beyond.");
    BridgeService x = quiet();
    for (int k = 0; k < 4; k++) x.plate(1, 10 * k, 9, 0);
    x.ends(7);
    // behind the year y SHE is at 6 and 6 for each, at 40 in the end
    int[] at = {6, 12, 18, 24, 30, 36, 40};
    for (int place = 0; place <= 40; place++) {
      int year = 0;
      while (at[year] < place) year++;
      due.is("over " + place, x.over(place), year);
    }
    x.ends(6);
    due.is("36 in the last year", x.over(36), 5);
    due.is("37 not in it", x.over(37), NONE);
    due.is("40 not in it", x.over(40), NONE);
    x.family(1, 39);
    due.is("beyond already", x.over(5), 0);
    due.is("at it already", x.over(39), 0);
    due.is("one ahead of it, with no row of pieces there yet", x.over(40), 3);
    x.family(1, 40);
    for (int place : new int[] {0, 39, 40}) due.is("across, over " + place, x.over(place), 0);
    x.ends(1);
    x.year();
    for (int place : new int[] {0, 39, 40}) due.is("over, over " + place, x.over(place), NONE);
  }

  private static void gapLeast() {
    due.sentence("What = 0 the least PLACE from where SHE is on that no PIECE SPANS in YEAR, SEATED or not");
    BridgeService x = quiet();
    for (int she : new int[] {0, 17, 39}) {
      x.family(1, she);
      due.is("no pieces, from " + she, x.gap(0), she);
    }
    x.family(1, 40);
    due.is("across", x.gap(0), NONE);
    // 0 to 9, 10 to 19, 21 to 30, 31 to 39
    for (int first : new int[] {0, 10, 21, 31}) x.plate(1, first, 9, 0);
    for (int seated = 0; seated < 2; seated++) {
      for (int she = 0; she <= 40; she++) {
        x.family(1, she);
        due.is("from " + she, x.gap(0), she <= 20 ? 20 : NONE);
      }
      for (int k = 0; k < 4; k++) x.change(k, 4, 1);
    }
    x.plate(4, 20, 0, 0);
    x.family(1, 0);
    due.is("none at all", x.gap(0), NONE);
    x.change(3, 1, 30);
    due.is("from 30 on ten", x.gap(0), NONE);
    x.change(3, 1, 29);
    due.is("the last place", x.gap(0), 39);
    x.family(1, 39);
    due.is("the last place", x.gap(0), 39);
    // a cracked one spans none in the year 0
    x.remake(4, 5);
    x.family(1, 3);
    due.is("in the year 0", x.gap(0), 20);
    x.year();
    x.family(1, 3);
    due.is("in the year 1", x.gap(0), 39);
  }

  private static void gapCount() {
    due.sentence("1 how many PLACES are not THERE in YEAR");
    BridgeService x = quiet();
    due.is("no pieces", x.gap(1), 40);
    int[] firsts = {0, 10, 20, 30};
    for (int k = 0; k < 4; k++) {
      x.plate(1, firsts[k], 9, 0);
      due.is("not seated", x.gap(1), 40 - 10 * k);
      x.change(k, 4, 1);
      due.is("seated", x.gap(1), 30 - 10 * k);
    }
    due.is("all are there", x.gap(1), 0);
    x.family(1, 40);
    due.is("wherever she is", x.gap(1), 0);
    x.change(1, 1, 5);
    due.is("those that two span count once", x.gap(1), 5);
    x.change(3, 1, 39);
    due.is("what is beyond counts nothing", x.gap(1), 14);
    x.change(0, 4, 0);
    due.is("0 to 4 no more", x.gap(1), 19);
  }

  private static void close() {
    due.sentence("CLOSE: two PIECES that aren't SEATED, of one HOME, or whose FIRST places are 2 apart at most");
    BridgeService x = quiet();
    x.plate(1, 20, 0, 0);
    x.plate(1, 20, 9, 1);
    for (int first = 0; first < 40; first++) {
      boolean isClose = first >= 18 && first <= 22;
      x.change(1, 1, first);
      due.is("at " + first, x.branches(-1), isClose ? 1 : 2);
      due.is("at " + first, x.branches(0), isClose ? 3 : 1);
      due.is("at " + first, x.branches(1), isClose ? 3 : 2);
    }
    x.change(0, 1, 0);
    due.is("39 apart", x.branches(-1), 2);
    for (int home = 0; home < 6; home++) {
      x.change(1, 3, home);
      due.is("home " + home, x.branches(-1), home == 0 ? 1 : 2);
    }
    x.change(1, 3, 0);
    x.change(0, 4, 1);
    due.is("one is seated", x.branches(-1), 1);
    due.is("who is seated", x.branches(0), 0);
    due.is("the other one", x.branches(1), 2);
    x.change(1, 4, 1);
    due.is("both are seated", x.branches(-1), 0);
    due.is("who is seated", x.branches(1), 0);
  }

  private static void branches() {
    due.sentence("a BRANCH: all that hang together so, one by the other.");
    BridgeService x = quiet();
    due.is("no pieces", x.branches(-1), 0);
    due.is("no such piece", x.branches(0), BAD);
    x.plate(1, 0, 0, 0);
    due.is("one alone", x.branches(-1), 1);
    due.is("one alone", x.branches(0), 1);
    due.is("no such piece", x.branches(1), BAD);
    for (int k = 1; k < 6; k++) x.plate(1, 7 * k, 0, k);
    due.is("six alone", x.branches(-1), 6);
    for (int k = 0; k < 6; k++) due.is("six alone", x.branches(k), 1 << k);
    // 5 by 0's home, 0 by 3's place, 3 by 1's home: one by the other
    x.change(5, 3, 0);
    x.change(3, 1, 2);
    x.change(3, 3, 1);
    due.is("three branches", x.branches(-1), 3);
    int[] sets = {43, 43, 4, 43, 16, 43};
    for (int k = 0; k < 6; k++) due.is("branch of " + k, x.branches(k), sets[k]);
    x.change(0, 4, 1);
    int[] then = {0, 10, 4, 10, 16, 32};
    due.is("whom they hung by is seated", x.branches(-1), 4);
    for (int k = 0; k < 6; k++) due.is("branch of " + k, x.branches(k), then[k]);
  }

  private static void fetching() {
    due.sentence("the fewest PLACES (up or down) to go to FIRST places of all PIECES that aren't SEATED, one behind the other");
    BridgeService x = quiet();
    for (int place : new int[] {0, 40}) due.is("none to fetch from " + place, x.fetch(place, 0), 0);
    x.plate(1, 39, 9, 0);
    due.is("from 0 to 39", x.fetch(0, 0), 39);
    due.is("from 40 to 39", x.fetch(40, 0), 1);
    due.is("from 39 to 39", x.fetch(39, 0), 0);
    x.plate(1, 0, 9, 0);
    for (int place = 0; place <= 40; place++) due.is("to both ends from " + place, x.fetch(place, 0), 39 + (place == 40 ? 1 : Math.min(place, 39 - place)));
    due.sentence("of several rows the FIRST: the least PIECE first, where they are unlike first.");
    for (int place = 0; place <= 40; place++) due.is("first from " + place, x.fetch(place, 1), place < 20 ? 1 : 0);
    // three at one place, and one on either side as far
    BridgeService y = quiet();
    for (int first : new int[] {23, 20, 20, 17, 20}) y.plate(1, first, 0, 0);
    due.is("as far up as down", y.fetch(20, 0), 9);
    due.is("the least first, although others are at hand", y.fetch(20, 1), 0);
    due.is("from 19 down first", y.fetch(19, 0), 8);
    due.is("from 19, those on the way up again are fetched then", y.fetch(19, 1), 3);
    due.is("from 21 up first", y.fetch(21, 0), 8);
    due.is("from 21", y.fetch(21, 1), 0);
    y.change(0, 4, 1);
    due.is("three at one place: the least of them", y.fetch(20, 1), 1);
    due.is("as far", y.fetch(20, 0), 3);
    y.change(3, 4, 1);
    due.is("all at one place", y.fetch(20, 0), 0);
    due.is("the least", y.fetch(20, 1), 1);
    y.change(1, 4, 1);
    due.is("the least that isn't seated", y.fetch(0, 1), 2);
  }

  private static void plans() {
    due.sentence("A PLAN of n: n YEARS (fewer, if it is OVER), ahead of each an ACT: 0 none is told, or 1 more than the number of the PIECE that is.");
    BridgeService x = quiet();
    // no pieces: one plan of any n
    for (int n = 0; n <= 4; n++) {
      due.is("ways of " + n, x.ways(n), 1);
      due.is("best of " + n, x.best(n), 0);
      for (int i = 0; i < 4; i++) due.is("act " + i + " of " + n, x.ith(n, i), i < n ? 0 : NONE);
    }
    // six pieces that are seated and told to sit: all plans are alike
    int[] sevens = {1, 7, 49, 343, 2401};
    for (int k = 0; k < 6; k++) {
      x.plate(1, 30, 0, 0);
      x.change(k, 4, 1);
    }
    for (int n = 0; n <= 4; n++) due.is("ways of " + n, x.ways(n), sevens[n]);
    for (int end = 4; end >= 1; end--) {
      x.ends(end);
      due.is("fewer: " + end, x.ways(4), sevens[end]);
      due.is("the last act", x.ith(4, end - 1), 0);
      due.is("no more acts", end < 4 ? x.ith(4, end) : NONE, NONE);
    }
    x.year();
    for (int n = 0; n <= 4; n++) {
      due.is("over: ways of " + n, x.ways(n), 1);
      due.is("over: best of " + n, x.best(n), 0);
      due.is("over: acts of " + n, x.ith(n, 0), NONE);
    }
    // the sixth piece alone is worth anything
    BridgeService y = quiet();
    for (int k = 0; k < 6; k++) y.plate(1, k < 5 ? 30 : 0, 0, k < 5 ? 0 : 1);
    y.home(0, 0, 9);
    y.home(0, 1, 0);
    due.is("the sixth", y.ith(1, 0), 6);
    due.is("the sixth, alone", y.ways(1), 1);
    due.is("worth", y.best(1), 5);
  }

  private static void firstOfBest() {
    due.sentence("the FIRST of these is that with the lesser ACT where they are unlike first.");
    BridgeService x = twoDishes();
    // 1 2 * * and others; 0 0 1 2 is the first
    int[] first = {0, 0, 1, 2};
    for (int i = 0; i < 4; i++) due.is("act " + i, x.ith(4, i), first[i]);
    x.ends(3);
    int[] three = {0, 1, 2, NONE};
    for (int i = 0; i < 4; i++) due.is("act " + i, x.ith(4, i), three[i]);
    due.is("nine of them", x.ways(4), 9);
  }

  // a plan of worth 0 is the best where none is worth more, whatever was asked ahead of it
  private static void worthless() {
    due.sentence("BEST: those with most WORTH");
    BridgeService x = twoDishes();
    due.is("asked ahead", x.ith(2, 0), 1);
    x.home(0, 0, 9);
    x.home(0, 1, 0);
    due.is("worth nothing", x.best(2), 0);
    due.is("act 0", x.ith(2, 0), 0);
    due.is("act 1", x.ith(2, 1), 0);
    due.is("all are alike", x.ways(2), 9);
    due.is("rows", x.prove(2), 2);
    due.is("row 0", x.row(0, 0), 0);
    due.is("row 1", x.row(1, 0), 0);
  }

  private static void supper() {
    due.sentence("the fewest ACTS that aren't 0 in a PLAN of n behind which each of them is SEATED.");
    BridgeService x = quiet();
    for (int k = 0; k < 6; k++) x.plate(1, 30, 0, 0);
    for (int n = 0; n <= 4; n++) {
      due.is("nobody by " + n, x.supper(n, 0), 0);
      due.is("one by " + n, x.supper(n, 32), n >= 1 ? 1 : NONE);
      due.is("two by " + n, x.supper(n, 33), n >= 2 ? 2 : NONE);
      due.is("four by " + n, x.supper(n, 60), n >= 4 ? 4 : NONE);
      due.is("five by " + n, x.supper(n, 31), NONE);
    }
    x.change(0, 4, 1);
    due.is("four of five", x.supper(4, 31), 4);
    for (int k = 1; k < 6; k++) x.change(k, 4, 1);
    for (int n = 0; n <= 4; n++) due.is("all are seated, by " + n, x.supper(n, 63), 0);
    x.change(5, 4, 0);
    x.ends(1);
    due.is("in the last year", x.supper(4, 63), 1);
    x.year();
    due.is("over", x.supper(4, 63), 0);
    x.change(5, 4, 0);
    due.is("over", x.supper(4, 63), NONE);
    due.is("over, nobody asked", x.supper(4, 0), 0);
    // told twice: who would not sit makes MOOD less, who leaves makes it more
    BridgeService y = quiet();
    y.plate(1, 30, 0, 0);
    y.plate(2, 30, 0, 1);
    y.home(0, 0, 9);
    y.home(0, 1, 5);
    y.change(1, 4, 1);
    Say.rules(y, "tureen leave;");
    due.is("GRUDGE 11 by MOOD 5 and WELCOME 5", y.supper(1, 1), NONE);
    due.is("MOOD 6, once the tureen has left", y.supper(2, 1), 2);
    due.is("not both", y.supper(4, 3), NONE);
  }

  private static void bars() {
    due.sentence("BAR: the least of them that is so behind no PLAN of n.");
    BridgeService x = quiet();
    for (int k = 0; k < 6; k++) x.plate(1, 30, 0, k % 2);
    x.home(1, 0, 9);
    x.home(1, 1, 0);
    due.is("the least of three", x.bars(4, 63), 1);
    due.is("the least of two", x.bars(4, 40), 3);
    due.is("the last", x.bars(4, 32), 5);
    due.is("each alone is so by 1", x.bars(1, 21), NONE);
    due.is("none by 0", x.bars(0, 21), 0);
    due.is("none by 0", x.bars(0, 16), 4);
    due.is("nobody asked", x.bars(0, 0), NONE);
    x.change(1, 4, 1);
    due.is("who is seated is so", x.bars(0, 2), NONE);
    due.is("the least of the others", x.bars(4, 63), 3);
    x.ends(1);
    x.year();
    due.is("over, the first one sat down", x.bars(4, 63), 2);
  }

  private static void game() {
    due.sentence("GAME of n: two in turn, ahead of n YEARS (till it is OVER) each an ACT (also 0)");
    BridgeService x = quiet();
    for (int n = 1; n <= 4; n++) due.is("no pieces, " + n, x.game(n), 0);
    for (int k = 0; k < 6; k++) x.plate(1, 30, 0, 0);
    // the first one lets one sit; the other one tells none
    int[] values = {0, 1, 1, 2, 2};
    for (int n = 1; n <= 4; n++) due.is("game of " + n, x.game(n), values[n]);
    for (int end = 1; end <= 4; end++) {
      x.ends(end);
      due.is("till it is over, " + end, x.game(4), values[end]);
    }
    x.ends(1);
    x.year();
    for (int n = 1; n <= 4; n++) due.is("over, " + n, x.game(n), 0);
  }

  private static void play() {
    due.sentence("The least ACT by which who begins comes to it. BAD; NONE: it is OVER.");
    BridgeService x = quiet();
    for (int n = 1; n <= 4; n++) due.is("no pieces, " + n, x.play(n), 0);
    for (int k = 0; k < 6; k++) x.plate(1, 30, 0, 0);
    for (int n = 1; n <= 4; n++) due.is("the least of six, " + n, x.play(n), 1);
    for (int k = 0; k < 5; k++) x.change(k, 4, 1);
    for (int n = 1; n <= 4; n++) due.is("the sixth, in the last turn or ahead of it, " + n, x.play(n), n == 1 || n == 2 ? 6 : 0);
    x.change(5, 4, 1);
    for (int n = 1; n <= 4; n++) due.is("all are seated, " + n, x.play(n), 0);
    x.ends(1);
    due.is("in the last year", x.play(4), 0);
    x.year();
    for (int n = 1; n <= 4; n++) due.is("over, " + n, x.play(n), NONE);
    due.is("0", x.play(0), BAD);
    due.is("5", x.play(5), BAD);
  }

  private static void reports() {
    due.sentence("A REPORT (6 at most): behind k YEARS (0 to 15; from YEAR 0 on, SHE is AT 0 then) where SHE was (asked 0; 0 to 40), or MOOD (1; 0 to 9) was from LEAST to MOST.");
    BridgeService x = quiet();
    for (int i = 0; i < 6; i++) {
      due.is("reports", x.many(3), i);
      due.is("report " + i, x.report(3 * i, i % 2, 0, i % 2 == 0 ? 40 : 9), i);
    }
    due.is("one more", x.report(0, 0, 0, 40), FULL);
    due.is("all are so", x.lost(0), 500);
    due.is("forget", x.forget(), 6);
    due.is("nothing there", x.forget(), 0);
    due.is("the first again", x.report(0, 1, 0, 0), 0);
    // LEAST and MOST belong to it: MOOD at first, by each MOOD 50
    for (int least = 0; least <= 9; least++) {
      for (int most = least; most <= 9; most += 3) {
        x.forget();
        x.report(0, 1, least, most);
        due.is("mood from " + least + " to " + most, x.lost(0), 50 * (most - least + 1));
        due.is("the least mood", x.lost(3), least);
      }
    }
    x.forget();
    x.report(0, 0, 0, 0);
    due.is("SHE is AT 0 at first", x.lost(0), 500);
    x.report(0, 0, 1, 40);
    due.is("and not beyond", x.lost(0), 0);
  }

  // behind k YEARS: NEWS of the YEAR k - 1 count, those of k don't
  private static void behindYears() {
    due.sentence("by which each REPORT is so, by NEWS as they are");
    for (int year = 0; year < 16; year++) {
      BridgeService x = quiet();
      x.news(year, 13);
      x.report(year, 1, 9, 9);
      due.is("ahead of the news of " + year, x.lost(0), 50);
      x.forget();
      if (year == 15) continue;
      x.report(year + 1, 1, 9, 9);
      due.is("behind the news of " + year, x.lost(0), 0);
      x.forget();
      x.report(year + 1, 1, 6, 6);
      due.is("behind the news of " + year, x.lost(3), 9);
      // NEWS as they are now
      x.news(year, 12);
      due.is("by other news", x.lost(3), 3);
    }
    // all years count, whatever END is, and wherever YEAR is
    BridgeService y = quiet();
    y.ends(1);
    y.year();
    y.report(15, 0, 1, 1);
    // saucers of one place; dishes have two, the others three but cracked ones of width 0 and 1
    due.is("behind 15 years", y.lost(0), 40);
  }

  private static void lostPieces() {
    due.sentence("A LOST PIECE is a KIND (1 to 5), a WIDTH, and MOOD at first; it is SEATED alone, its FIRST place is 0.");
    BridgeService x = quiet();
    due.is("all of them", x.lost(0), 500);
    // SHE comes to 10 at most: dishes of width 8 and 9
    x.report(15, 0, 10, 40);
    due.is("the widest dishes", x.lost(0), 20);
    due.is("their width", x.lost(2), 8);
    x.forget();
    x.report(15, 0, 11, 40);
    due.is("none comes further", x.lost(0), 0);
    for (int what = 1; what <= 3; what++) due.is("none, " + what, x.lost(what), NONE);
    x.forget();
    // 10 places in one year need MOOD 9, in five years MOOD 1
    x.report(1, 0, 10, 10);
    due.is("by MOOD 9", x.lost(0), 2);
    due.is("by MOOD 9", x.lost(3), 9);
    x.forget();
    x.report(4, 0, 10, 10);
    // MOOD 2 and more: 12 places in four years; by MOOD 1 eight
    due.is("in four years", x.lost(0), 16);
    due.is("in four years", x.lost(3), 2);
    x.forget();
    x.report(1, 0, 0, 0);
    due.is("cracked ones span none in the year 0", x.lost(0), 100);
    due.is("their kind", x.lost(1), 5);
    x.forget();
    // neither the table's PIECES, RULES, HOMES nor MOOD count
    x.plate(1, 0, 9, 0);
    x.plate(1, 10, 9, 0);
    x.change(1, 4, 1);
    x.home(0, 0, 9);
    x.family(0, 0);
    x.family(1, 30);
    Say.rules(x, "plate leave;");
    x.report(15, 0, 10, 40);
    due.is("the widest dishes", x.lost(0), 20);
  }

  private static void lostLeast() {
    due.sentence("of that with the least KIND, of these the least WIDTH, of these the least MOOD");
    BridgeService x = quiet();
    int[] all = {500, 1, 0, 0};
    for (int what = 0; what < 4; what++) due.is("of all, " + what, x.lost(what), all[what]);
    // 4 places in two years: dishes and tureens of 2 and 3 by MOOD 1 to 9, boats of 2 and 3 by MOOD 3 to 9,
    // since they span one in the year 1
    x.report(2, 0, 4, 4);
    x.report(15, 0, 4, 4);
    int[] four = {50, 1, 2, 1};
    for (int what = 0; what < 4; what++) due.is("of four places, " + what, x.lost(what), four[what]);
    x.report(0, 1, 9, 9);
    int[] nine = {6, 1, 2, 9};
    for (int what = 0; what < 4; what++) due.is("of four places, MOOD 9, " + what, x.lost(what), nine[what]);
    x.forget();
    // seven places: tureens and boats of 8 and 9, by any MOOD
    x.report(15, 0, 7, 7);
    int[] seven = {40, 2, 8, 0};
    for (int what = 0; what < 4; what++) due.is("of seven places, " + what, x.lost(what), seven[what]);
  }

  private static void liar() {
    due.sentence("LIAR: if none FITS, the least REPORT but for which some would.");
    BridgeService x = quiet();
    // MOOD 4 at first, MOOD 3 at first: either may be wrong
    x.report(0, 1, 4, 4);
    x.report(0, 1, 3, 3);
    due.is("the least of two", x.liar(), 0);
    x.forget();
    x.report(0, 0, 0, 0);
    x.report(0, 1, 9, 9);
    x.report(0, 1, 0, 0);
    due.is("the least of the last two", x.liar(), 1);
    x.report(1, 1, 0, 0);
    due.is("the one that stands against two", x.liar(), 1);
    x.report(1, 1, 9, 9);
    due.is("two against two", x.liar(), NONE);
    x.forget();
    // the sixth one
    for (int i = 0; i < 5; i++) x.report(i, 0, 0, 40);
    due.is("all fit", x.liar(), NONE);
    x.report(0, 0, 1, 1);
    due.is("the sixth", x.liar(), 5);
    due.is("none fits", x.lost(0), 0);
    // MOOD at first is 0 to 9: with none below it SHE would stay
    BridgeService y = quiet();
    y.report(0, 1, 0, 9);
    y.report(2, 0, 0, 0);
    due.is("each goes on in one of two years", y.lost(0), 0);
    due.is("the second", y.liar(), 1);
    y.forget();
    due.is("there is no such report", y.liar(), NONE);
    y.report(0, 0, 40, 40);
    due.is("the only one", y.liar(), 0);
    y.report(0, 0, 40, 40);
    due.is("there is no such report", y.liar(), NONE);
  }

  private static void seed() {
    due.sentence("z (an int; 1 at first)");
    BridgeService x = new BridgeService();
    int[] all = {1, 0, -1, Integer.MAX_VALUE, Integer.MIN_VALUE, 7};
    for (int i = 1; i < all.length; i++) due.is("seed", x.seed(all[i]), all[i - 1]);
  }

  private static void lot() {
    due.sentence("becomes z * 1103515245 + 12345; the ACT in it is what z >>> 16 leaves by how many PIECES there are and 1.");
    int[] from = {0, 1, -1, Integer.MAX_VALUE, Integer.MIN_VALUE, 12345};
    int[] to = {12345, 1103527590, -1103502900, 1043980748, -2147471303, -740551042};
    // by 0 to 6 PIECES
    int[][] acts = {{0, 0, 0, 0, 0, 0, 0}, {0, 0, 2, 2, 3, 2, 3}, {0, 1, 1, 1, 2, 1, 5}, {0, 1, 2, 1, 4, 5, 4}, {0, 0, 2, 0, 3, 2, 1}, {0, 0, 2, 0, 1, 2, 0}};
    for (int i = 0; i < from.length; i++) {
      for (int pieces = 0; pieces <= 6; pieces++) {
        BridgeService x = quiet();
        for (int k = 0; k < pieces; k++) x.plate(1, 30, 0, 0);
        x.seed(from[i]);
        due.is("lot from " + from[i] + " by " + pieces, x.lot(), acts[i][pieces] == 0 ? 0 : 1);
        due.is("who sits", x.state(4), acts[i][pieces] == 0 ? 0 : 1 << acts[i][pieces] - 1);
        due.is("z", x.seed(0), to[i]);
      }
    }
    due.sentence("A YEAR by LOT: what it was WORTH. STATE: it is OVER.");
    BridgeService x = quiet();
    x.ends(1);
    x.seed(5);
    due.is("the last year", x.lot(), 0);
    int z = x.seed(99);
    due.is("z", z, 5 * 1103515245 + 12345);
    due.is("over", x.lot(), STATE);
    due.is("z stays", x.seed(0), 99);
  }

  private static void times() {
    due.sentence("are WORTH v (0 to 999) or more (all is as it was in the end, z, too)");
    BridgeService x = quiet();
    x.plate(4, 0, 0, 0);
    x.ends(1);
    // from 1 the second lot and those behind it: 16838, 38526, 10113, 50283, 63819: 0, 0, 1, 1, 1 by one PIECE; who sits is worth 3
    int[] sits = {0, 0, 1, 2, 3};
    for (int n = 1; n <= 5; n++) {
      due.is(n + " times, 0", x.times(n, 0), n);
      due.is(n + " times, 1", x.times(n, 1), sits[n - 1]);
      due.is(n + " times, just 3", x.times(n, 3), sits[n - 1]);
      due.is(n + " times, one more", x.times(n, 4), 0);
      due.is(n + " times, 999", x.times(n, 999), 0);
    }
    due.is("z", x.seed(1), 1);
    due.is("none sits", x.state(4), 0);
    due.is("year", x.state(0), 0);
    due.is("score", x.state(2), 0);
    due.is("40 times, 0", x.times(40, 0), 40);
    due.is("41 times", x.times(41, 0), BAD);
    due.is("0 times", x.times(0, 0), BAD);
    x.year();
    for (int n = 1; n <= 40; n += 13) {
      due.is("over: no years are worth 0", x.times(n, 0), n);
      due.is("over: and not more", x.times(n, 1), 0);
    }
    // without PIECES each LOT is 0
    BridgeService y = quiet();
    due.is("without pieces", y.times(40, 0), 40);
    due.is("without pieces", y.times(40, 1), 0);
    due.is("z", y.seed(0), 1);
  }

  private static void prove() {
    due.sentence("ROWS of the FIRST of the BEST PLANS: for each YEAR (ACT, what it is WORTH, PIECES that are SEATED behind it, as a set).");
    BridgeService x = twoDishes();
    due.is("no rows yet", x.many(4), 0);
    due.is("no row yet", x.row(0, 0), NO_ROW);
    for (int n = 4; n >= 0; n--) {
      due.is("rows of " + n, x.prove(n), n);
      due.is("rows", x.many(4), n);
      for (int what = 0; what < 3; what++) due.is("none behind the last", x.row(n, what), NO_ROW);
      if (n > 0) due.is("the last act", x.row(n - 1, 0), n == 1 ? 1 : 2);
    }
    x.ends(2);
    due.is("fewer, if it is over", x.prove(4), 2);
    due.is("refused", x.prove(5), BAD);
    due.is("refused", x.prove(-1), BAD);
    due.is("rows stay", x.many(4), 2);
    x.year();
    x.year();
    due.is("rows stay", x.many(4), 2);
    due.is("over", x.prove(4), 0);
    due.is("none", x.row(0, 0), NO_ROW);
    due.is("right", x.judge(), 0);
  }

  private static void alterRow() {
    due.sentence("It becomes v: what it was. -9 likewise.");
    BridgeService x = twoDishes();
    x.prove(4);
    int[] values = {Integer.MIN_VALUE, -9, -1, 0, 1, Integer.MAX_VALUE};
    for (int k = 0; k < 4; k++) {
      for (int what = 0; what < 3; what++) {
        int was = x.row(k, what);
        for (int v : values) {
          due.is("alter", x.alterRow(k, what, v), was);
          due.is("row", x.row(k, what), v);
          was = v;
        }
      }
    }
  }

  private static void reader() {
    due.sentence("right is one whose ACT is one, if it isn't OVER, the others as they are then.");
    BridgeService x = quiet();
    for (int k = 0; k < 6; k++) {
      x.plate(1, 30, 0, 0);
      x.change(k, 4, 1);
    }
    due.is("no rows", x.judge(), 0);
    x.prove(4);
    // all are seated: any ACT is worth nothing and changes nothing
    int[] acts = {Integer.MIN_VALUE, -2, -1, 0, 6, 7, 8, Integer.MAX_VALUE};
    for (int k = 0; k < 4; k++) {
      for (int act : acts) {
        x.alterRow(k, 0, act);
        due.is("row " + k + ", act " + act, x.judge(), act >= 0 && act <= 6 ? 0 : k + 1);
      }
      x.alterRow(k, 0, 0);
    }
    for (int end = 4; end >= 1; end--) {
      x.ends(end);
      due.is("end " + end, x.judge(), end == 4 ? 0 : end + 1);
    }
    x.year();
    due.is("over", x.judge(), 1);
    due.is("rows", x.many(4), 4);
  }
}
