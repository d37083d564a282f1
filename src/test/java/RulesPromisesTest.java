// Promises 13 and 14: THE TAPE, and THE RULES that it tells.
public final class RulesPromisesTest {
  private static final Due due = new Due();
  private static final int BAD = -1, FULL = -2;
  private static final int SIT = 0, STAND = 1, LEAVE = 2;

  public static void main(String[] args) {
    feed();
    counts();
    faults();
    faultsChangeNothing();
    kinds();
    conditions();
    facts();
    whatIsDone();
    due.end();
  }

  private static void feed() {
    due.promise(13, "feed");
    BridgeService x = new BridgeService();
    due.is("none", x.feed(0L, 0), BAD);
    due.is("nine", x.feed(0L, 9), BAD);
    due.is("-1", x.feed(0L, -1), BAD);
    due.is("bytes", x.many(5), 0);
    // "dish sit;" in three parts, the lowest byte first; what stands above the n bytes counts nothing
    due.is("dish", x.feed('d' | 'i' << 8 | 's' << 16 | (long) 'h' << 24 | 0x7F7F7F7FL << 32, 4), 4);
    due.is(" sit", x.feed(' ' | 's' << 8 | 'i' << 16 | (long) 't' << 24, 4), 8);
    due.is(";", x.feed(';' | -1L << 8, 1), 9);
    due.is("rules", x.rules(), 1);
    due.is("used up", x.many(5), 0);
    for (int i = 1; i <= 24; i++) due.is("eight more", x.feed(0x2020202020202020L, 8), 8 * i);
    due.is("seven", x.feed(0x20202020202020L, 7), 199);
    due.is("two more", x.feed(0x2020L, 2), FULL);
    due.is("BAD ahead of FULL", x.feed(0x2020L, 9), BAD);
    due.is("bytes", x.many(5), 199);
    due.is("the last", x.feed(0x3BL, 1), 200);
    due.is("one more", x.feed(0x20L, 1), FULL);
    due.is("blanks and ;", x.rules(), -299);
    due.is("room again", x.feed(0L, 8), 8);
  }

  private static void counts() {
    due.promise(14, "rules, how many");
    BridgeService x = new BridgeService();
    due.is("empty", x.rules(), 0);
    due.is("blanks", Say.rules(x, "    "), 0);
    due.is("one", Say.rules(x, "plate sit;"), 1);
    due.is("two", Say.rules(x, " dish stand ;boat if 1<2 leave; "), 2);
    due.is("eight", Say.rules(x, "dish sit;dish sit;dish sit;dish sit;dish sit;dish sit;dish sit;dish sit; "), 8);
    due.is("in place of all", Say.rules(x, "plate sit;"), 1);
    due.is("many", x.many(1), 1);
    due.is("none again", x.rules(), 0);
    due.is("many", x.many(1), 0);
    String longest = "plate if" + " not".repeat(45) + " 1=1 sit;";
    due.is("200 bytes and less", Say.rules(x, longest), 1);
    x.plate(1, 0, 0, 0);
    due.is("45 times not", x.plateOf(0, 8), SIT);
  }

  private static void fault(String text, int place) {
    BridgeService x = new BridgeService();
    due.is("rules of \"" + text + "\"", Say.rules(x, text), -100 - place);
    due.is("the tape is used up", x.many(5), 0);
  }

  private static void faults() {
    due.promise(14, "rules, FAULT");
    fault("c", 0);
    fault(" dishes sit;", 1);
    fault("Dish sit;", 0);
    fault("dish", 4);
    fault("dish  ", 6);
    fault("dish sit", 8);
    fault("dish sit ", 9);
    fault("dish sit;;", 9);
    fault("dish sit; 7", 10);
    fault("dish sit plate", 9);
    fault("dish dish;", 5);
    fault("dish si;", 5);
    fault("dish if", 7);
    fault("dish if sit;", 8);
    fault("dish if 1 sit;", 10);
    fault("dish if 1<sit;", 10);
    fault("dish if 1<2;", 11);
    fault("dish if 1<2", 11);
    fault("dish if 1<2<3 sit;", 11);
    fault("dish if 1<2 and sit;", 16);
    fault("dish if 1<2 or or 1<2 sit;", 15);
    fault("dish if and 1<2 sit;", 8);
    fault("dish if not sit;", 12);
    fault("dish if 1<2 not 1<2 sit;", 12);
    fault("dish if 1<2) sit;", 11);
    fault("dish if (1<2 sit;", 13);
    fault("dish if () sit;", 9);
    fault("dish if (1)<2 sit;", 10);
    fault("dish if 1<(2) sit;", 10);
    fault("dish if 1<=2 sit;", 10);
    fault("dish if years<2 sit;", 8);
    fault("dish if 12345<2 sit;", 8);
    fault("dish if 1<00000 sit;", 10);
    fault("dish if 1 2<3 sit;", 10);
    fault("dish if 1<2 sit;dish if 1<2 if", 28);
    fault("dish if 1(2 sit;", 9);
    fault("dish if 1)2 sit;", 9);
    fault("dish if (1<2; sit;", 12);
    fault("dish sit)", 8);
    fault("dish if 1;2 sit;", 9);
    fault("dish sitz;", 5);
    // NUMBERS and NAMES part one another
    fault("dish if 12year", 10);
    fault("dish sit;z", 9);
    fault("dish sita;", 5);
    fault("dish\tsit;", 4);
    fault("dish sit;" + (char) 200, 9);
    fault("dish sit;" + (char) 0, 9);
    fault("dish if ((((1<2)))) sit;", 11);
    fault("dish if (((1<2) and (((1<2))))) sit;", 21);
    fault("boat sit;boat sit;boat sit;boat sit;boat sit;boat sit;boat sit;boat sit;  boat sit;", 74);
    fault("boat sit;boat sit;boat sit;boat sit;boat sit;boat sit;boat sit;boat sit;;", 72);
    due.promise(14, "rules, what is right");
    right("dish if 9999>0 sit;");
    right("dish if 0000=0 sit;");
    right("dish if 1<2and 3<4or not(year=1)sit;");
    right("dish if (((1<2))) sit;");
    right("dish if (((1<2) or (1<2))) and (1<2 and ((1<2))) sit;");
  }

  private static void right(String text) {
    due.is("rules of \"" + text + "\"", Say.rules(new BridgeService(), text), 1);
  }

  private static void faultsChangeNothing() {
    due.promise(14, "rules, behind a FAULT");
    BridgeService x = new BridgeService();
    x.plate(1, 0, 0, 0);
    Say.rules(x, "dish leave; boat stand;");
    due.is("a fault", Say.rules(x, "dish stand; dish stand; dish stand; dish"), -140);
    due.is("rules stay", x.many(1), 2);
    due.is("will stays", x.plateOf(0, 8), LEAVE);
    due.is("the tape is used up", x.many(5), 0);
    // nothing of what stood ahead of a FAULT counts later
    due.is("a fault behind (", Say.rules(x, "dish if (((1=2 or"), -117);
    due.is("three ( again", Say.rules(x, "dish if (((1=2))) leave;"), 1);
    due.is("none holds", x.plateOf(0, 8), SIT);
    due.is("a fault behind or", Say.rules(x, "dish sit; dish if 1=2 or"), -124);
    due.is("a right one", Say.rules(x, "dish if 1=2 leave;"), 1);
    due.is("none holds", x.plateOf(0, 8), SIT);
    due.is("now a right one", Say.rules(x, "dish stand;"), 1);
    due.is("will", x.plateOf(0, 8), STAND);
  }

  private static void kinds() {
    due.promise(14, "rules, KINDS");
    String[] names = {"plate", "dish", "tureen", "boat", "saucer", "cracked"};
    // who is under whom, by kinds 1 to 5
    String[] tells = {"12345", "1", "23", "3", "45", "5"};
    for (int above = 0; above < 6; above++) {
      BridgeService x = new BridgeService();
      for (int kind = 1; kind <= 5; kind++) x.plate(kind, 0, 0, 0);
      Say.rules(x, names[above] + " leave; plate stand;");
      for (int kind = 1; kind <= 5; kind++) {
        int will = tells[above].indexOf('0' + kind) >= 0 ? LEAVE : STAND;
        due.is(names[above] + " tells kind " + kind, x.plateOf(kind - 1, 8), will);
      }
    }
    BridgeService x = new BridgeService();
    x.plate(3, 0, 0, 0);
    x.plate(1, 0, 0, 0);
    Say.rules(x, "tureen if 1>2 leave; boat leave; tureen stand;");
    due.is("the first that holds", x.plateOf(0, 8), LEAVE);
    due.is("none tells", x.plateOf(1, 8), SIT);
  }

  private static void holds(String cond, boolean does) {
    BridgeService x = new BridgeService();
    x.plate(1, 0, 0, 0);
    Say.rules(x, "dish if " + cond + " leave; plate stand;");
    due.is(cond, x.plateOf(0, 8), does ? LEAVE : STAND);
  }

  private static void conditions() {
    due.promise(14, "rules, conditions");
    holds("1<2", true);
    holds("2<2", false);
    holds("3<2", false);
    holds("1=2", false);
    holds("2=2", true);
    holds("0010=10", true);
    holds("1>2", false);
    holds("2>2", false);
    holds("9999>9998", true);
    holds("not 1=1", false);
    holds("not not 1=1", true);
    holds("1=1 or 1=1 and 1=2", true);
    holds("1=2 and 1=1 or 1=1", true);
    holds("(1=1 or 1=1) and 1=2", false);
    holds("1=1 and (1=2 or 1=1)", true);
    holds("1=2 or 1=2 or 1=1", true);
    holds("1=1 and 1=1 and 1=2", false);
    holds("not 1=2 and 1=2", false);
    holds("not (1=2 and 1=2)", true);
    holds("not 1=1 or 1=1", true);
    holds("not (1=1 or 1=1)", false);
    holds("not (not (1=1) and 1=1)", true);
    holds("1=2 or (1=1 and (1=2 or (1=1 and not 1=2)))", true);
    holds("1=2 or (1=1 and (1=2 or (1=1 and not 1=1)))", false);
    holds("1=1 or 1=2 and 1=2 or 1=2", true);
    holds("1=2 and 1=2 or 1=2 and 1=1", false);
    holds("(1=1) and not (1=2) and not not (1=1)", true);
  }

  // piece 2 in YEAR 1: WIDTH 8, GRUDGE 6, MOOD 8, number 2
  private static BridgeService withFacts() {
    BridgeService x = new BridgeService();
    x.home(3, 0, 4);
    x.plate(1, 0, 0, 0);
    x.plate(2, 0, 0, 0);
    x.plate(1, 9, 8, 3);
    x.family(0, 7);
    x.change(0, 4, 1);
    x.change(1, 4, 1);
    x.change(2, 4, 1);
    x.year();
    return x;
  }

  private static void facts() {
    due.promise(14, "rules, FACTS");
    String[] names = {"year", "width", "grudge", "mood", "number"};
    int[] values = {1, 8, 6, 8, 2};
    for (int i = 0; i < names.length; i++) {
      BridgeService x = withFacts();
      for (int v = 0; v < 10; v++) {
        Say.rules(x, "dish if " + names[i] + "=" + v + " leave; plate stand;");
        due.is(names[i] + " is " + v, x.plateOf(2, 8), values[i] == v ? LEAVE : STAND);
        Say.rules(x, "dish if " + v + "<" + names[i] + " leave; plate stand;");
        due.is(v + " is less than " + names[i], x.plateOf(2, 8), v < values[i] ? LEAVE : STAND);
      }
    }
  }

  private static void whatIsDone() {
    due.promise(14, "rules, NUMBERS");
    BridgeService n = new BridgeService();
    n.plate(1, 0, 0, 0);
    n.home(0, 0, 9);
    for (int v = 0; v < 30; v++) {
      Say.rules(n, "dish if grudge = " + v + " leave; dish if grudge > " + v + " stand;");
      due.is("grudge by " + v, n.plateOf(0, 8), v == 11 ? LEAVE : v < 11 ? STAND : SIT);
    }
    Say.rules(n, "dish if grudge = 0011 leave;");
    due.is("four digits", n.plateOf(0, 8), LEAVE);
    Say.rules(n, "dish if 1110 < grudge leave;");
    due.is("four digits", n.plateOf(0, 8), SIT);
    due.promise(14, "rules, what is done");
    // MOOD is what it is behind the news of the year that goes by: 5 and 1
    BridgeService x = new BridgeService();
    x.plate(1, 0, 0, 0);
    Say.rules(x, "dish if mood = 6 and year = 0 stand;");
    due.is("as it is now", x.plateOf(0, 8), SIT);
    due.is("a year", x.year(), 0);
    due.is("stood", x.state(4), 0);
    due.is("mood", x.state(6), 6);
    due.is("the next year", x.year(), 5);
    due.is("sits", x.state(4), 1);
    due.is("mood", x.state(6), 7);
    // leave: MOOD is 1 more; told once more it does nothing
    Say.rules(x, "plate leave;");
    x.sheet(0, 0, 2);
    x.write(0, 0, 1);
    x.write(0, 1, 1);
    for (int y = 0; y < 16; y++) x.news(y, 3);
    due.is("leaves", x.goAll(0, 0, 1), 0);
    due.is("none sits", x.state(4), 0);
    due.is("mood", x.state(6), 8);
    due.is("leaves again", x.goAll(0, 1, 1), 0);
    due.is("mood", x.state(6), 8);
    x.change(0, 4, 1);
    x.family(0, 9);
    x.goAll(0, 0, 1);
    due.is("mood is held", x.state(6), 9);
    due.is("left", x.state(4), 0);
    // sit: who would not sit makes MOOD 1 less, 0 at least; who sits does nothing
    x.rules();
    x.home(0, 0, 9);
    x.home(0, 1, 0);
    x.family(0, 3);
    x.goAll(0, 0, 2);
    due.is("would not sit", x.state(4), 0);
    due.is("mood", x.state(6), 1);
    x.goAll(0, 0, 2);
    due.is("mood is held", x.state(6), 0);
    x.change(0, 4, 1);
    x.family(0, 5);
    x.goAll(0, 0, 2);
    due.is("sits already", x.state(6), 5);
    // a third of GRUDGE 11 is 3; held at 0
    x.ends(16);
    x.change(0, 4, 0);
    x.home(0, 1, 9);
    due.is("sits down", x.goAll(0, 0, 1), 1);
    due.is("mood", x.state(6), 2);
    x.change(0, 4, 0);
    due.is("sits down", x.goAll(0, 0, 1), 1);
    due.is("mood is held", x.state(6), 0);
  }
}
