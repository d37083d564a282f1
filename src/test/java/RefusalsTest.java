import java.util.List;

// Each refusal of the document by its own call: which one it is, and that the call changes nothing.
// A number that is told from .. to is asked at its last allowed values and at the first ones beyond.
public final class RefusalsTest {
  private static final Due due = new Due();
  private static final int BAD = -1, FULL = -2, NONE = -3, STATE = -4, NO_ROW = -9;
  private static final int NOTHING = -11, OUTSIDE = -12, OTHER = -13, BELOW_0 = -14;
  private static final int LEAST_INT = Integer.MIN_VALUE, MOST_INT = Integer.MAX_VALUE;

  private interface CallWith {
    int on(BridgeService x, int v);
  }

  public static void main(String[] args) {
    twinsTell();
    pieces();
    homesAndYears();
    tapeAndRules();
    asked();
    plans();
    strangers();
    rows();
    sheets();
    goingBySheets();
    shelves();
    manyAndKept();
    due.end();
  }

  // the same call on an object that is refused it leaves all as on one that isn't asked
  private static void refused(String name, Twins.Making making, int code, Twins.Call call) {
    BridgeService one = making.make();
    due.is(name, call.on(one), code);
    List<Integer> all = Twins.all(one);
    due.is(name + " changes nothing", all.equals(Twins.all(making.make())) ? 1 : 0, 1);
  }

  private static void allowed(String name, Twins.Making making, int code, Twins.Call call) {
    due.is(name + " is allowed", call.on(making.make()) == code ? 1 : 0, 0);
  }

  // a number from least to most: what is beyond is refused
  private static void limits(String name, Twins.Making making, int code, int least, int most, CallWith call) {
    for (int v : new int[] {least - 1, LEAST_INT}) refused(name + " " + v, making, code, x -> call.on(x, v));
    for (int v : new int[] {most + 1, MOST_INT}) refused(name + " " + v, making, code, x -> call.on(x, v));
    for (int v : new int[] {least, most}) allowed(name + " " + v, making, code, x -> call.on(x, v));
  }

  // the tests above would be blind if twins answered alike whatever was done to one of them
  private static void twinsTell() {
    due.promise(0, "twins");
    List<Twins.Call> changes = List.of(x -> x.change(0, 2, 4), x -> x.change(3, 4, 1), x -> x.remake(2, 5), x -> x.news(14, 3), x -> x.home(5, 1, 4),
        x -> x.family(0, 9), x -> x.family(1, 33), x -> x.ends(10), x -> x.anew(), x -> x.feed(59L, 1), x -> x.rules(), x -> x.year(), x -> x.report(0, 0, 1, 1),
        x -> x.forget(), x -> x.seed(3), x -> x.lot(), x -> x.prove(1), x -> x.alterRow(0, 0, -5), x -> x.sheet(3, 0, 1), x -> x.write(0, 39, 7),
        x -> x.goAll(0, 1, 1), x -> x.shelf(3, 0, 1), x -> x.act(0, 0, 1), x -> x.act(4, 0, 1), x -> x.keep(), x -> x.again(), x -> x.plate(1, 1, 1, 1));
    List<Integer> as = Twins.all(Twins.some());
    due.is("twins answer alike", as.equals(Twins.all(Twins.some())) ? 1 : 0, 1);
    for (int i = 0; i < changes.size(); i++) {
      BridgeService x = Twins.some();
      changes.get(i).on(x);
      due.is("twins tell change " + i, as.equals(Twins.all(x)) ? 1 : 0, 0);
    }
  }

  private static void pieces() {
    due.promise(2, "plate");
    limits("kind", Twins::some, BAD, 1, 5, (x, v) -> x.plate(v, 1, 1, 1));
    limits("first place", Twins::some, BAD, 0, 39, (x, v) -> x.plate(1, v, 1, 1));
    limits("width", Twins::some, BAD, 0, 9, (x, v) -> x.plate(1, 1, v, 1));
    limits("home", Twins::some, BAD, 0, 5, (x, v) -> x.plate(1, 1, 1, v));
    allowed("the sixth", Twins::some, FULL, x -> x.plate(1, 1, 1, 1));
    refused("the seventh", Twins::full, FULL, x -> x.plate(1, 1, 1, 1));
    refused("BAD ahead of FULL, kind", Twins::full, BAD, x -> x.plate(0, 1, 1, 1));
    refused("BAD ahead of FULL, first place", Twins::full, BAD, x -> x.plate(1, 40, 1, 1));
    refused("BAD ahead of FULL, width", Twins::full, BAD, x -> x.plate(1, 1, 10, 1));
    refused("BAD ahead of FULL, home", Twins::full, BAD, x -> x.plate(1, 1, 1, 6));
    due.promise(3, "plateOf");
    refused("there is none", Twins::bare, BAD, x -> x.plateOf(0, 0));
    for (int what = 0; what <= 8; what++) {
      int asked = what;
      limits("piece, what " + what, Twins::some, BAD, 0, 4, (x, v) -> x.plateOf(v, asked));
    }
    limits("piece of six", Twins::full, BAD, 0, 5, (x, v) -> x.plateOf(v, 0));
    limits("what", Twins::some, BAD, 0, 8, (x, v) -> x.plateOf(4, v));
    due.promise(4, "change");
    refused("there is none", Twins::bare, BAD, x -> x.change(0, 1, 1));
    for (int what = 1; what <= 4; what++) {
      int asked = what;
      limits("piece, what " + what, Twins::some, BAD, 0, 4, (x, v) -> x.change(v, asked, 1));
    }
    limits("what", Twins::some, BAD, 1, 4, (x, v) -> x.change(2, v, 1));
    limits("first place", Twins::some, BAD, 0, 39, (x, v) -> x.change(2, 1, v));
    limits("width", Twins::some, BAD, 0, 9, (x, v) -> x.change(2, 2, v));
    limits("home", Twins::some, BAD, 0, 5, (x, v) -> x.change(2, 3, v));
    limits("seated", Twins::some, BAD, 0, 1, (x, v) -> x.change(2, 4, v));
    due.promise(5, "remake");
    refused("there is none", Twins::bare, BAD, x -> x.remake(0, 1));
    limits("piece", Twins::some, BAD, 0, 4, (x, v) -> x.remake(v, 1));
    limits("kind", Twins::some, BAD, 1, 5, (x, v) -> x.remake(0, v));
  }

  private static void homesAndYears() {
    due.promise(6, "news");
    limits("year", Twins::some, BAD, 0, 15, (x, v) -> x.news(v, 3));
    limits("news", Twins::some, BAD, 0, 15, (x, v) -> x.news(3, v));
    due.promise(7, "home");
    limits("home", Twins::some, BAD, 0, 5, (x, v) -> x.home(v, 0, 3));
    limits("home", Twins::some, BAD, 0, 5, (x, v) -> x.home(v, 1, 4));
    limits("what", Twins::some, BAD, 0, 1, (x, v) -> x.home(1, v, 4));
    limits("anger", Twins::some, BAD, 0, 9, (x, v) -> x.home(1, 0, v));
    limits("welcome", Twins::some, BAD, 0, 9, (x, v) -> x.home(1, 1, v));
    due.promise(8, "homeOf");
    limits("home", Twins::some, BAD, 0, 5, (x, v) -> x.homeOf(v, 0));
    limits("home", Twins::some, BAD, 0, 5, (x, v) -> x.homeOf(v, 1));
    limits("what", Twins::some, BAD, 0, 1, (x, v) -> x.homeOf(1, v));
    due.promise(9, "family");
    limits("what", Twins::some, BAD, 0, 1, (x, v) -> x.family(v, 4));
    limits("mood", Twins::some, BAD, 0, 9, (x, v) -> x.family(0, v));
    limits("she", Twins::some, BAD, 0, 40, (x, v) -> x.family(1, v));
    due.promise(10, "ends");
    limits("end", Twins::bare, BAD, 1, 16, (x, v) -> x.ends(v));
    limits("end in the year 2", Twins::some, BAD, 1, 16, (x, v) -> x.ends(v));
    refused("below the year", Twins::some, STATE, x -> x.ends(1));
    allowed("the year itself", Twins::some, STATE, x -> x.ends(2));
    due.promise(12, "state");
    limits("what", Twins::some, BAD, 0, 7, (x, v) -> x.state(v));
    due.promise(15, "year");
    refused("over", Twins::over, STATE, x -> x.year());
    allowed("not over", Twins::some, STATE, x -> x.year());
  }

  private static void tapeAndRules() {
    due.promise(13, "feed");
    limits("bytes", Twins::some, BAD, 1, 8, (x, v) -> x.feed(0x2020202020202020L, v));
    limits("bytes on a full tape", Twins::full, BAD, 1, 8, (x, v) -> x.feed(0x2020202020202020L, v));
    for (int n = 1; n <= 8; n++) {
      int bytes = n;
      refused(n + " more on a full tape", Twins::full, FULL, x -> x.feed(0x2020202020202020L, bytes));
    }
    due.promise(14, "rules");
    String[] faulty = {"x", "dish", "dish sit;dish stand", "plate leave; plate if 1=1 stand; plate if ((((", "dish sit;".repeat(9), "boat stand; ~"};
    int[] faults = {0, 4, 19, 45, 72, 12};
    for (int i = 0; i < faulty.length; i++) {
      String text = faulty[i];
      int code = -100 - faults[i];
      // the twin's TAPE is used up, too
      BridgeService one = Twins.some();
      BridgeService other = Twins.some();
      one.rules();
      other.rules();
      due.is("\"" + text + "\"", Say.rules(one, text), code);
      due.is("\"" + text + "\" is used up", one.many(5), 0);
      due.is("\"" + text + "\" changes nothing", Twins.all(one).equals(Twins.all(other)) ? 1 : 0, 1);
    }
  }

  private static void asked() {
    due.promise(16, "on");
    limits("years", Twins::some, BAD, 0, 16, (x, v) -> x.on(v));
    limits("years", Twins::over, BAD, 0, 16, (x, v) -> x.on(v));
    due.promise(17, "when");
    refused("there is none", Twins::bare, BAD, x -> x.when(0));
    limits("piece", Twins::some, BAD, 0, 4, (x, v) -> x.when(v));
    limits("BAD ahead of NONE", Twins::over, BAD, 0, 4, (x, v) -> x.when(v));
    for (int k = 0; k < 5; k++) {
      int piece = k;
      refused("seated now", Twins::over, NONE, x -> x.when(piece));
    }
    due.promise(18, "widthFor");
    refused("there is none", Twins::bare, BAD, x -> x.widthFor(0));
    limits("piece", Twins::some, BAD, 0, 4, (x, v) -> x.widthFor(v));
    due.promise(19, "pieceFor");
    refused("there is none", Twins::bare, BAD, x -> x.pieceFor(0));
    limits("piece", Twins::some, BAD, 0, 4, (x, v) -> x.pieceFor(v));
    due.promise(20, "over");
    limits("place", Twins::some, BAD, 0, 40, (x, v) -> x.over(v));
    limits("BAD ahead of NONE", Twins::over, BAD, 0, 40, (x, v) -> x.over(v));
    refused("never", Twins::some, NONE, x -> x.over(40));
    refused("over", Twins::over, NONE, x -> x.over(0));
    due.promise(21, "gap");
    limits("what", Twins::some, BAD, 0, 1, (x, v) -> x.gap(v));
    due.promise(22, "branches");
    limits("what", Twins::some, BAD, -1, 4, (x, v) -> x.branches(v));
    limits("what of six", Twins::full, BAD, -1, 5, (x, v) -> x.branches(v));
    limits("what of none", Twins::bare, BAD, -1, -1, (x, v) -> x.branches(v));
    due.promise(23, "fetch");
    for (int what = 0; what < 2; what++) {
      int asked = what;
      limits("place, what " + what, Twins::some, BAD, 0, 40, (x, v) -> x.fetch(v, asked));
      limits("place, all seated, what " + what, Twins::over, BAD, 0, 40, (x, v) -> x.fetch(v, asked));
    }
    limits("what", Twins::some, BAD, 0, 1, (x, v) -> x.fetch(9, v));
    refused("all are seated", Twins::over, NONE, x -> x.fetch(9, 1));
    refused("no pieces", Twins::bare, NONE, x -> x.fetch(9, 1));
  }

  private static void plans() {
    due.promise(24, "best");
    limits("n", Twins::some, BAD, 0, 4, (x, v) -> x.best(v));
    limits("n, over", Twins::over, BAD, 0, 4, (x, v) -> x.best(v));
    due.promise(25, "ith");
    limits("n", Twins::some, BAD, 0, 4, (x, v) -> x.ith(v, 0));
    limits("i", Twins::some, BAD, 0, 3, (x, v) -> x.ith(4, v));
    limits("n, BAD ahead of NONE", Twins::over, BAD, 0, 4, (x, v) -> x.ith(v, 0));
    limits("i, BAD ahead of NONE", Twins::over, BAD, 0, 3, (x, v) -> x.ith(4, v));
    for (int n = 0; n < 4; n++) {
      int years = n;
      refused("not so many of " + n, Twins::some, NONE, x -> x.ith(years, years));
      if (n > 0) allowed("the last of " + n, Twins::some, NONE, x -> x.ith(years, years - 1));
    }
    refused("over", Twins::over, NONE, x -> x.ith(4, 0));
    due.promise(26, "ways");
    limits("n", Twins::some, BAD, 0, 4, (x, v) -> x.ways(v));
    due.promise(27, "supper");
    limits("n", Twins::some, BAD, 0, 4, (x, v) -> x.supper(v, 1));
    limits("pieces", Twins::some, BAD, 0, 31, (x, v) -> x.supper(4, v));
    limits("pieces of six", Twins::full, BAD, 0, 63, (x, v) -> x.supper(4, v));
    limits("pieces of none", Twins::bare, BAD, 0, 0, (x, v) -> x.supper(4, v));
    refused("by none", Twins::some, NONE, x -> x.supper(0, 31));
    refused("BAD ahead of NONE", Twins::some, BAD, x -> x.supper(0, 32));
    due.promise(28, "bars");
    limits("n", Twins::some, BAD, 0, 4, (x, v) -> x.bars(v, 1));
    limits("pieces", Twins::some, BAD, 0, 31, (x, v) -> x.bars(4, v));
    limits("pieces of six", Twins::full, BAD, 0, 63, (x, v) -> x.bars(4, v));
    limits("pieces of none", Twins::bare, BAD, 0, 0, (x, v) -> x.bars(4, v));
    refused("none asked", Twins::some, NONE, x -> x.bars(4, 0));
    refused("each is so", Twins::over, NONE, x -> x.bars(4, 31));
    refused("BAD ahead of NONE", Twins::over, BAD, x -> x.bars(5, 31));
    due.promise(29, "game");
    limits("n", Twins::some, BAD, 1, 4, (x, v) -> x.game(v));
    limits("n, over", Twins::over, BAD, 1, 4, (x, v) -> x.game(v));
    due.promise(30, "play");
    limits("n", Twins::some, BAD, 1, 4, (x, v) -> x.play(v));
    limits("n, BAD ahead of NONE", Twins::over, BAD, 1, 4, (x, v) -> x.play(v));
    for (int n = 1; n <= 4; n++) {
      int years = n;
      refused("over", Twins::over, NONE, x -> x.play(years));
    }
  }

  private static void strangers() {
    due.promise(31, "report");
    limits("years", Twins::some, BAD, 0, 15, (x, v) -> x.report(v, 0, 0, 9));
    limits("asked", Twins::some, BAD, 0, 1, (x, v) -> x.report(1, v, 0, 9));
    limits("least, where", Twins::some, BAD, 0, 40, (x, v) -> x.report(1, 0, v, 40));
    limits("most, where", Twins::some, BAD, 0, 40, (x, v) -> x.report(1, 0, 0, v));
    limits("least, mood", Twins::some, BAD, 0, 9, (x, v) -> x.report(1, 1, v, 9));
    limits("most, mood", Twins::some, BAD, 0, 9, (x, v) -> x.report(1, 1, 0, v));
    limits("most not below least", Twins::some, BAD, 7, 40, (x, v) -> x.report(1, 0, 7, v));
    limits("most not below least", Twins::some, BAD, 7, 9, (x, v) -> x.report(1, 1, 7, v));
    limits("both beyond", Twins::some, BAD, 0, 40, (x, v) -> x.report(1, 0, v, v));
    limits("both beyond", Twins::some, BAD, 0, 9, (x, v) -> x.report(1, 1, v, v));
    refused("the seventh", Twins::full, FULL, x -> x.report(1, 0, 0, 9));
    refused("BAD ahead of FULL, years", Twins::full, BAD, x -> x.report(16, 0, 0, 9));
    refused("BAD ahead of FULL, asked", Twins::full, BAD, x -> x.report(1, 2, 0, 9));
    refused("BAD ahead of FULL, most below least", Twins::full, BAD, x -> x.report(1, 0, 4, 3));
    due.promise(33, "lost");
    limits("what", Twins::some, BAD, 0, 3, (x, v) -> x.lost(v));
    limits("what, BAD ahead of NONE", Twins::lying, BAD, 0, 3, (x, v) -> x.lost(v));
    for (int what = 1; what <= 3; what++) {
      int asked = what;
      refused("none fits", Twins::lying, NONE, x -> x.lost(asked));
    }
    due.is("how many, if none fits", Twins.lying().lost(0), 0);
    due.promise(34, "liar");
    refused("some fit", Twins::some, NONE, x -> x.liar());
    refused("no reports", Twins::bare, NONE, x -> x.liar());
    refused("no such report", Twins::lying, NONE, x -> x.liar());
    due.promise(36, "lot");
    refused("over", Twins::over, STATE, x -> x.lot());
    allowed("not over", Twins::some, STATE, x -> x.lot());
    due.promise(37, "times");
    limits("times", Twins::some, BAD, 1, 40, (x, v) -> x.times(v, 3));
    limits("worth", Twins::some, BAD, 0, 999, (x, v) -> x.times(3, v));
    limits("times, over", Twins::over, BAD, 1, 40, (x, v) -> x.times(v, 0));
  }

  private static void rows() {
    due.promise(38, "prove");
    limits("n", Twins::some, BAD, 0, 4, (x, v) -> x.prove(v));
    due.promise(39, "row");
    refused("there is none", Twins::bare, NO_ROW, x -> x.row(0, 0));
    limits("row", Twins::some, NO_ROW, 0, 3, (x, v) -> x.row(v, 0));
    limits("what", Twins::some, NO_ROW, 0, 2, (x, v) -> x.row(3, v));
    due.promise(40, "alterRow");
    refused("there is none", Twins::bare, NO_ROW, x -> x.alterRow(0, 0, 0));
    limits("row", Twins::some, NO_ROW, 0, 3, (x, v) -> x.alterRow(v, 0, 5));
    limits("what", Twins::some, NO_ROW, 0, 2, (x, v) -> x.alterRow(3, v, 5));
    for (int v : new int[] {LEAST_INT, -1, 0, MOST_INT}) allowed("any number", Twins::some, NO_ROW, x -> x.alterRow(3, 0, v));
  }

  private static void sheets() {
    due.promise(42, "sheet");
    limits("sheet", Twins::some, BAD, 0, 3, (x, v) -> x.sheet(v, 2, 4));
    limits("sheet, missing", Twins::some, BAD, 0, 3, (x, v) -> x.sheet(v, -1, 4));
    limits("sort", Twins::some, BAD, -1, 4, (x, v) -> x.sheet(0, v, 4));
    for (int sort = 0; sort <= 4; sort++) {
      int of = sort;
      for (int v : new int[] {41, 42, MOST_INT}) refused("size " + v, Twins::some, BAD, x -> x.sheet(0, of, v));
      for (int v : new int[] {-1, -2, LEAST_INT}) refused("size " + v, Twins::some, BELOW_0, x -> x.sheet(0, of, v));
      for (int v : new int[] {0, 40}) due.is("size " + v, Twins.some().sheet(0, sort, v), 1);
    }
    for (int v : new int[] {LEAST_INT, -1, 41, MOST_INT}) due.is("missing, size " + v, Twins.some().sheet(0, -1, v), 1);
    refused("BAD ahead of -14, sheet", Twins::some, BAD, x -> x.sheet(4, 0, -1));
    refused("BAD ahead of -14, sort", Twins::some, BAD, x -> x.sheet(0, 5, -1));
    due.promise(43, "write");
    limits("sheet", Twins::some, BAD, 0, 3, (x, v) -> x.write(v, 0, 1));
    refused("missing", Twins::some, NOTHING, x -> x.write(3, 0, 1));
    for (int v : new int[] {LEAST_INT, -1, 40, MOST_INT}) refused("missing ahead of outside", Twins::some, NOTHING, x -> x.write(3, v, 1));
    limits("item of 40", Twins::some, OUTSIDE, 0, 39, (x, v) -> x.write(0, v, 1));
    limits("item of 3", Twins::some, OUTSIDE, 0, 2, (x, v) -> x.write(1, v, 1));
    limits("item of 2", Twins::some, OUTSIDE, 0, 1, (x, v) -> x.write(2, v, 1));
    due.promise(44, "item");
    limits("sheet", Twins::some, BAD, 0, 3, (x, v) -> x.item(v, 2, 0));
    for (int s = 0; s < 4; s++) {
      int sheet = s;
      limits("sort, sheet " + s, Twins::some, BAD, 0, 4, (x, v) -> x.item(sheet, v, 0));
      limits("sort ahead of outside, sheet " + s, Twins::some, BAD, 0, 4, (x, v) -> x.item(sheet, v, 99));
    }
    int[] sorts = {0, 2, 4};
    for (int s = 0; s < 3; s++) {
      int sheet = s;
      for (int sort = 0; sort <= 4; sort++) {
        int asked = sort;
        if (sort == sorts[s]) continue;
        for (int i : new int[] {-1, 0, 40}) refused("another sort", Twins::some, OTHER, x -> x.item(sheet, asked, i));
      }
    }
    for (int i : new int[] {-1, 0, 40}) refused("missing", Twins::some, NOTHING, x -> x.item(3, 0, i));
    limits("item of 40", Twins::some, OUTSIDE, 0, 39, (x, v) -> x.item(0, 0, v));
    limits("item of 3", Twins::some, OUTSIDE, 0, 2, (x, v) -> x.item(1, 2, v));
    limits("item of 2", Twins::some, OUTSIDE, 0, 1, (x, v) -> x.item(2, 4, v));
  }

  private static void goingBySheets() {
    due.promise(45, "goAll");
    limits("sheet", Twins::some, BAD, 0, 3, (x, v) -> x.goAll(v, 0, 1));
    for (int s = 0; s < 4; s++) {
      int sheet = s;
      limits("how many, sheet " + s, Twins::some, BAD, 0, 20, (x, v) -> x.goAll(sheet, 0, v));
    }
    for (int n : new int[] {0, 1, 20}) {
      for (int i : new int[] {-1, 0, 40}) {
        refused("ints", Twins::some, OTHER, x -> x.goAll(1, i, n));
        refused("booleans", Twins::some, OTHER, x -> x.goAll(2, i, n));
        refused("missing", Twins::some, NOTHING, x -> x.goAll(3, i, n));
      }
    }
    limits("from item", Twins::some, OUTSIDE, 0, 39, (x, v) -> x.goAll(0, v, 1));
    for (int i : new int[] {0, 1, 20}) allowed("20 of 40, from " + i, Twins::some, OUTSIDE, x -> x.goAll(0, i, 20));
    due.promise(46, "wouldBe");
    limits("sheet", Twins::some, BAD, 0, 3, (x, v) -> x.wouldBe(v, 0, 1));
    for (int s = 0; s < 4; s++) {
      int sheet = s;
      limits("how many, sheet " + s, Twins::some, BAD, 0, 20, (x, v) -> x.wouldBe(sheet, 0, v));
    }
    for (int n : new int[] {0, 1, 20}) {
      for (int i : new int[] {-1, 0, 40}) {
        refused("ints", Twins::some, OTHER, x -> x.wouldBe(1, i, n));
        refused("booleans", Twins::some, OTHER, x -> x.wouldBe(2, i, n));
        refused("missing", Twins::some, NOTHING, x -> x.wouldBe(3, i, n));
      }
    }
    limits("from item", Twins::some, OUTSIDE, 0, 39, (x, v) -> x.wouldBe(0, v, 1));
    for (int i : new int[] {LEAST_INT, -20, -1, 40, MOST_INT - 19, MOST_INT}) {
      refused("the first of 20 is outside", Twins::some, OUTSIDE, x -> x.wouldBe(0, i, 20));
      refused("the first of 20 is outside", Twins::some, OUTSIDE, x -> x.goAll(0, i, 20));
    }
    refused("seven years to come, the eighth", Twins::some, STATE, x -> x.wouldBe(0, 0, 8));
    allowed("seven years to come", Twins::some, STATE, x -> x.wouldBe(0, 0, 7));
    refused("over", Twins::over, STATE, x -> x.wouldBe(0, 0, 1));
    refused("outside ahead of over", Twins::over, OUTSIDE, x -> x.wouldBe(0, 40, 1));
  }

  private static void shelves() {
    due.promise(47, "shelf");
    limits("shelf, a piece", Twins::some, BAD, 0, 3, (x, v) -> x.shelf(v, 0, 1));
    limits("shelf, a row", Twins::some, BAD, 0, 3, (x, v) -> x.shelf(v, 1, 1));
    limits("shelf, nothing", Twins::some, BAD, 0, 3, (x, v) -> x.shelf(v, 2, 1));
    limits("what", Twins::some, BAD, 0, 2, (x, v) -> x.shelf(0, v, 1));
    limits("piece", Twins::some, BAD, 0, 4, (x, v) -> x.shelf(0, 0, v));
    limits("piece of six", Twins::full, BAD, 0, 5, (x, v) -> x.shelf(0, 0, v));
    limits("sheet", Twins::some, BAD, 0, 3, (x, v) -> x.shelf(0, 1, v));
    for (int v : new int[] {LEAST_INT, -1, 6, MOST_INT}) due.is("nothing, n counts nothing", Twins.some().shelf(0, 2, v), 1);
    refused("there is no piece", Twins::bare, BAD, x -> x.shelf(0, 0, 0));
    due.promise(48, "taken");
    for (int s = 0; s < 4; s++) {
      int shelf = s;
      for (int as : new int[] {LEAST_INT, -1, 6, 7, 8, 9, 15, MOST_INT}) refused("as " + as, Twins::some, BAD, x -> x.taken(shelf, as));
    }
    limits("shelf", Twins::some, BAD, 0, 3, (x, v) -> x.taken(v, 0));
    limits("shelf", Twins::some, BAD, 0, 3, (x, v) -> x.taken(v, 14));
    // a boat, a row of ints, a dish, nothing
    boolean[][] takes = {{true, false, true, true, false, false, false, false, false, false, false}, {false, false, false, false, false, false, false, false, true, false, false},
        {true, true, false, false, false, false, false, false, false, false, false}};
    int[] as = {0, 1, 2, 3, 4, 5, 10, 11, 12, 13, 14};
    int[] taken = {4, 3, 0};
    for (int i = 0; i < as.length; i++) {
      int of = as[i];
      for (int s = 0; s < 3; s++) {
        int shelf = s;
        if (takes[s][i]) due.is("shelf " + s + " as " + of, Twins.some().taken(s, of), taken[s]);
        else refused("shelf " + s + " as " + of, Twins::some, OTHER, x -> x.taken(shelf, of));
      }
      refused("nothing as " + of, Twins::some, NOTHING, x -> x.taken(3, of));
    }
    due.promise(50, "trace");
    // a boat shines by eleven bodies
    due.is("bodies", Twins.some().many(6), 11);
    limits("body", Twins::some, NONE, 0, 10, (x, v) -> x.trace(v));
    refused("no trace", Twins::bare, NONE, x -> x.trace(0));
    due.promise(49, "act");
    int[][] none = {{-1, 0}, {4, 0}, {LEAST_INT, 0}, {MOST_INT, 3}, {0, -1}, {0, 4}, {0, LEAST_INT}, {0, MOST_INT}, {1, 0}, {3, 0}};
    for (int[] w : none) {
      BridgeService one = Twins.some();
      BridgeService other = Twins.some();
      due.is("no such act", one.act(w[0], w[1], 7), 0);
      other.act(3, 0, 0);
      due.is("no trace then", one.many(6), 0);
      due.is("nothing else changes", Twins.all(one).equals(Twins.all(other)) ? 1 : 0, 1);
    }
  }

  private static void manyAndKept() {
    due.promise(51, "many");
    limits("what", Twins::some, BAD, 0, 6, (x, v) -> x.many(v));
    due.promise(53, "again");
    refused("nothing is kept", Twins::bare, NONE, x -> x.again());
    allowed("something is kept", Twins::some, NONE, x -> x.again());
  }
}
