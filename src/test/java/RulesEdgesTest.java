// The sentences of the document that name a boundary of THE TAPE and THE RULES: Terms 2, and the promises 13 and 14.
public final class RulesEdgesTest {
  private static final Due due = new Due();
  private static final int FULL = -2;
  private static final int SIT = 0, STAND = 1, LEAVE = 2;

  private static final String KINDS = "plate dish tureen boat saucer cracked", DOS = "sit stand leave";
  private static final String VALUES = "7 9999 year width grudge mood number", SIGNS = "< = >", JOINTS = "and or";
  private static final String ONES = VALUES + " not (";
  private static final String[] WORDS = (KINDS + " " + DOS + " if " + JOINTS + " not year width grudge mood number 7 9999 10000 < = > ( ) ; x platesit dis ! , < A").split(" ");
  private static final String EIGHT = "boat sit;".repeat(8);

  public static void main(String[] args) {
    tape();
    lowestFirst();
    usedUp();
    whatMayStand();
    whatMayEnd();
    eachByte();
    eightRules();
    threeOpen();
    digits();
    names();
    blanks();
    twoHundred();
    inPlaceOfAll();
    numbers();
    facts();
    factsThen();
    firstThatTells();
    noneTells();
    due.end();
  }

  private static void tape() {
    due.sentence("THE TAPE takes bytes, 200 at most; rules() uses it up.");
    for (int n = 1; n <= 8; n++) {
      BridgeService x = new BridgeService();
      int bytes = 0;
      while (bytes + n <= 200) {
        bytes += n;
        due.is(n + " more", x.feed(0x2020202020202020L, n), bytes);
      }
      due.is(n + " more than 200", x.feed(0x2020202020202020L, n), FULL);
      for (int rest = 200 - bytes; rest > 0; rest--) due.is("one more", x.feed(32L, 1), ++bytes);
      due.is("one more than 200", x.feed(32L, 1), FULL);
      due.is("bytes", x.many(5), 200);
      due.is("blanks alone", x.rules(), 0);
      due.is("used up", x.many(5), 0);
      due.is("again", x.feed(0L, n), n);
    }
  }

  private static void lowestFirst() {
    due.sentence("n bytes (1 to 8) come to THE TAPE, the lowest of eight first");
    // "boat sit" and ";", "dish": what is above the n bytes counts nothing
    long boatSit = 0x7469732074616F62L;
    for (int n = 1; n <= 8; n++) {
      BridgeService x = new BridgeService();
      due.is(n + " bytes", x.feed(boatSit, n), n);
      // n bytes of "boat sit" alone: a NAME that is too short, or more must come
      int[] faults = {0, 0, 0, 4, 5, 5, 5, 8};
      due.is("FAULT of " + n + " bytes", x.rules(), -100 - faults[n - 1]);
    }
    BridgeService x = new BridgeService();
    x.feed(boatSit, 8);
    due.is("the lowest byte alone", x.feed(0xFFFFFFFFFFFFFF3BL, 1), 9);
    due.is("rules", x.rules(), 1);
    x.feed(boatSit, 8);
    due.is("the highest byte counts, too", x.feed(0x8020202020202020L, 8), 16);
    due.is("a byte of 128", x.rules(), -115);
  }

  private static void usedUp() {
    due.sentence("such a call changes nothing (but that THE TAPE is used up by rules())");
    BridgeService x = new BridgeService();
    x.plate(1, 0, 0, 0);
    due.is("rules", Say.rules(x, "dish leave;"), 1);
    due.is("a fault", Say.rules(x, "dish stand; dish"), -116);
    due.is("bytes", x.many(5), 0);
    due.is("rules", x.many(1), 1);
    due.is("will", x.plateOf(0, 8), LEAVE);
    due.is("a fault that the bytes ahead would have healed", Say.rules(x, " sit;"), -101);
    due.is("rules", x.many(1), 1);
    due.is("will", x.plateOf(0, 8), LEAVE);
  }

  // behind each beginning each word: what may stand there is read, what may not is the FAULT
  private static void whatMayStand() {
    due.sentence("the place (from 0) of the first byte of the first NAME, NUMBER or other byte that can't stand there");
    String[][] states = {
        {"", KINDS}, {"dish sit;", KINDS}, {"dish sit; boat if 1<2 leave;", KINDS}, {"dish", "if " + DOS}, {"cracked", "if " + DOS},
        {"dish if", ONES}, {"dish if not", ONES}, {"dish if not not", ONES}, {"dish if (", ONES}, {"dish if ((", ONES}, {"dish if (((", VALUES + " not"},
        {"dish if ((( not", VALUES + " not"}, {"dish if 7", SIGNS}, {"dish if mood", SIGNS}, {"dish if (7", SIGNS}, {"dish if not year", SIGNS},
        {"dish if 7<", VALUES}, {"dish if 7=", VALUES}, {"dish if 7>", VALUES}, {"dish if (year<", VALUES}, {"dish if 7<7", JOINTS + " " + DOS},
        {"dish if not 7<mood", JOINTS + " " + DOS}, {"dish if (7<7", JOINTS + " )"}, {"dish if (7<7)", JOINTS + " " + DOS}, {"dish if ((7<7)", JOINTS + " )"},
        {"dish if (((7<7)))", JOINTS + " " + DOS}, {"dish if 7<7 and", ONES}, {"dish if 7<7 or", ONES}, {"dish if (7<7 and", ONES}, {"dish if ((7<7 or", ONES},
        {"dish if (((7<7 or", VALUES + " not"}, {"dish if (((7<7) or", ONES}, {"dish if (((7<7))) or", ONES}, {"dish sit", ";"}, {"dish leave", ";"},
        {"dish if 7<7 stand", ";"}, {"dish sit; dish stand", ";"}, {EIGHT, ""}, {EIGHT + "   ", ""}};
    for (String[] state : states) {
      for (String word : WORDS) {
        String text = state[0] + " " + word;
        boolean may = (" " + state[1] + " ").contains(" " + word + " ");
        int place = may ? text.length() : state[0].length() + 1;
        boolean ends = may && word.equals(";");
        int rules = state[0].startsWith("dish sit; ") ? 2 : 1;
        due.is("rules of \"" + text + "\"", Say.rules(new BridgeService(), text), ends ? rules : -100 - place);
      }
    }
  }

  private static void whatMayEnd() {
    due.sentence("or the end (how many bytes there are), if more must come.");
    String whole = "dish if not (year<12 and (mood=3 or 4>number)) or width>0 leave; boat sit;";
    for (int length = 0; length <= whole.length(); length++) {
      String text = whole.substring(0, length);
      int ends = whole.indexOf(';') + 1;
      boolean isWhole = length == 0 || length == ends || length == ends + 1 || length == whole.length();
      int want = isWhole ? (length == 0 ? 0 : length == whole.length() ? 2 : 1) : -100 - length;
      // a NAME that is cut can't stand where it stands
      int cut = cutName(text);
      due.is("rules of \"" + text + "\"", Say.rules(new BridgeService(), text), cut >= 0 ? -100 - cut : want);
      if (cut >= 0) continue;
      // blanks behind it are bytes, too
      due.is("rules of \"" + text + "  \"", Say.rules(new BridgeService(), text + "  "), isWhole ? want : want - 2);
    }
  }

  // where a NAME begins that the text breaks off in, or -1
  private static int cutName(String text) {
    int from = text.length();
    while (from > 0 && Character.isLetter(text.charAt(from - 1))) from--;
    String name = text.substring(from);
    boolean isName = name.isEmpty() || " dish if not year and mood or number width leave boat sit ".contains(" " + name + " ");
    return isName ? -1 : from;
  }

  private static void eachByte() {
    due.sentence("blanks (32) part them, and stand elsewhere as one likes.");
    for (int b = 0; b < 256; b++) {
      char c = (char) b;
      due.is("byte " + b + " alone", Say.rules(new BridgeService(), "" + c), b == 32 ? 0 : -100);
      due.is("byte " + b + " behind a rule", Say.rules(new BridgeService(), "dish sit;" + c), b == 32 ? 1 : -109);
      boolean isDigit = c >= '0' && c <= '9';
      boolean mayStand = b == 32 || isDigit || c == '<' || c == '=' || c == '>';
      due.is("byte " + b + " behind a number", Say.rules(new BridgeService(), "dish if 7" + c), mayStand ? -110 : -109);
      boolean isLetter = c >= 'a' && c <= 'z';
      due.is("byte " + b + " within a name", Say.rules(new BridgeService(), "di" + c + "sh sit;"), -100);
      due.is("byte " + b + " behind a name", Say.rules(new BridgeService(), "dish" + c), b == 32 ? -105 : isLetter ? -100 : -104);
      due.is("byte " + b + " behind a comparison", Say.rules(new BridgeService(), "dish if 1<2" + c), b == 32 || isDigit ? -112 : -111);
    }
  }

  private static void eightRules() {
    due.sentence("8 RULES at most");
    BridgeService x = new BridgeService();
    x.plate(1, 0, 0, 0);
    for (int n = 0; n <= 8; n++) {
      due.is(n + " rules", Say.rules(x, "boat sit;".repeat(n)), n);
      due.is("many", x.many(1), n);
    }
    due.is("the eighth tells", Say.rules(x, "boat sit;".repeat(7) + "dish leave;"), 8);
    due.is("will", x.plateOf(0, 8), LEAVE);
    due.is("eight conditions", Say.rules(x, "dish if 1>2 sit;".repeat(7) + "dish if 2>1 stand;"), 8);
    due.is("will", x.plateOf(0, 8), STAND);
    due.sentence("the first NAME of the ninth RULE, too)");
    for (int blanks = 0; blanks < 3; blanks++) {
      due.is("the ninth", Say.rules(x, EIGHT + " ".repeat(blanks) + "dish leave;"), -172 - blanks);
      due.is("the ninth, not whole", Say.rules(x, EIGHT + " ".repeat(blanks) + "dish"), -172 - blanks);
      due.is("the ninth ahead of another fault", Say.rules(x, EIGHT + " ".repeat(blanks) + "dish dish"), -172 - blanks);
      due.is("a fault ahead of the ninth", Say.rules(x, "boat sit!" + EIGHT), -108);
    }
    due.is("the rules stay", x.many(1), 8);
    due.is("will", x.plateOf(0, 8), STAND);
  }

  private static void threeOpen() {
    due.sentence("At most 3 \"(\" are open within one another.");
    BridgeService x = new BridgeService();
    x.plate(1, 0, 0, 0);
    due.is("three", Say.rules(x, "dish if (((1=1))) leave;"), 1);
    due.is("will", x.plateOf(0, 8), LEAVE);
    due.is("many threes beside one another", Say.rules(x, "dish if (((1=2))) or (((1=1) and (1=1)) or (1=2 and (1=1))) stand;"), 1);
    due.is("will", x.plateOf(0, 8), STAND);
    due.is("seven, one behind the other", Say.rules(x, "dish if (1=1) and (1=1) and (1=1) and (1=1) and (1=1) and (1=1) and (1=1) leave;"), 1);
    due.is("will", x.plateOf(0, 8), LEAVE);
    due.is("three in each of two rules", Say.rules(x, "dish if (((1=2))) sit; dish if (((2=2))) stand;"), 2);
    due.is("will", x.plateOf(0, 8), STAND);
    due.sentence("the fourth \"(\"");
    due.is("the fourth", Say.rules(x, "dish if ((((1=1)))) leave;"), -111);
    due.is("the fourth behind others", Say.rules(x, "dish if (1=1) and (((1=1 or (1=1)))) leave;"), -128);
    due.is("the fourth behind not", Say.rules(x, "dish if not(not(not(not(1=1)))) leave;"), -123);
    due.is("will", x.plateOf(0, 8), STAND);
    due.is("three with not", Say.rules(x, "dish if not(not(not(1=2))) leave;"), 1);
    due.is("will", x.plateOf(0, 8), LEAVE);
  }

  private static void digits() {
    due.sentence("NUMBERS rows of digits (1 to 4), both as long as they go");
    String[] right = {"0", "9", "00", "99", "000", "999", "0000", "9999", "0010"};
    for (String n : right) {
      due.is(n, Say.rules(new BridgeService(), "dish if " + n + "=1 sit;"), 1);
      due.is(n, Say.rules(new BridgeService(), "dish if 1=" + n + " sit;"), 1);
      due.is(n, Say.rules(new BridgeService(), "dish if 1=" + n + "sit;"), 1);
    }
    due.sentence("(a NUMBER of more digits, ");
    String[] wrong = {"00000", "10000", "99999", "123456", "00001", "4294967297", "99999999999999999999"};
    for (String n : wrong) {
      due.is(n, Say.rules(new BridgeService(), "dish if " + n + "=1 sit;"), -108);
      due.is(n, Say.rules(new BridgeService(), "dish if 1=" + n + " sit;"), -110);
      due.is(n + " at the end", Say.rules(new BridgeService(), "dish if 1=" + n), -110);
    }
    due.is("two numbers", Say.rules(new BridgeService(), "dish if 1234 5=1 sit;"), -113);
  }

  private static void names() {
    due.sentence("NAMES are rows of letters a to z");
    String[] wrong = {"dishes sit;", "dis sit;", "d sit;", "dishsit;", "disH sit;", "DISH sit;", "Dish sit;", "plat sit;", "platee sit;", "plateplate sit;", "platesit;"};
    for (String text : wrong) due.is(text, Say.rules(new BridgeService(), text), -100);
    due.is("a sign parts names", Say.rules(new BridgeService(), "dish-sit;"), -104);
    due.is("a digit parts names", Say.rules(new BridgeService(), "dish7sit;"), -104);
    due.is("numbers and names part one another", Say.rules(new BridgeService(), "dish if 1=2or year<3and 4>mood leave;"), 1);
    due.is("no blank between them", Say.rules(new BridgeService(), "dish if 1=year1 sit;"), -114);
    due.is("a name of several words", Say.rules(new BridgeService(), "dish if 1=1 andor 1=1 sit;"), -112);
    due.is("not is a name", Say.rules(new BridgeService(), "dish if notyear=1 sit;"), -108);
    due.is("not behind not", Say.rules(new BridgeService(), "dish if notnot 1=1 sit;"), -108);
  }

  private static void blanks() {
    due.sentence("blanks (32) part them, and stand elsewhere as one likes.");
    BridgeService x = new BridgeService();
    x.plate(1, 0, 0, 0);
    due.is("as few as may be", Say.rules(x, "dish if(1=1)and(year<2)or not(3>mood)leave;boat sit;"), 2);
    due.is("will", x.plateOf(0, 8), LEAVE);
    due.is("many", Say.rules(x, "   dish   if   (  1  =  1  )  and  (  year  <  2  )  stand   ;   boat   sit   ;   "), 2);
    due.is("will", x.plateOf(0, 8), STAND);
    due.is("within a name", Say.rules(x, "di sh sit;"), -100);
    due.is("within a number", Say.rules(x, "dish if 1 2=3 sit;"), -110);
  }

  private static void twoHundred() {
    due.sentence("200 at most");
    // a rule of just 200 bytes: by blanks, by conditions
    String blanks = "dish" + " ".repeat(190) + "leave;";
    String nots = "dish if" + " not".repeat(46) + " 1=1sit;";
    BridgeService x = new BridgeService();
    x.plate(1, 0, 0, 0);
    due.is("its bytes", blanks.length(), 200);
    due.is("200 bytes", Say.feed(x, blanks), 200);
    due.is("one rule", x.rules(), 1);
    due.is("will", x.plateOf(0, 8), LEAVE);
    due.is("its bytes", nots.length(), 199);
    due.is("46 times not", Say.rules(x, nots), 1);
    due.is("will", x.plateOf(0, 8), SIT);
    String stands = "dish if" + " not".repeat(45) + " 1=2 stand;";
    due.is("45 times not", Say.rules(x, stands), 1);
    due.is("will", x.plateOf(0, 8), STAND);
    // so many comparisons, the last of which decides
    String ands = "dish if 1=1" + "and 1=1".repeat(26) + "leave;";
    due.is("its bytes", ands.length(), 199);
    due.is("27 of them, joined by and", Say.rules(x, ands), 1);
    due.is("will", x.plateOf(0, 8), LEAVE);
    String last = "dish if 1=1" + "and 1=1".repeat(25) + "and 1=2leave;";
    due.is("27 of them, the last one wrong", Say.rules(x, last), 1);
    due.is("will", x.plateOf(0, 8), SIT);
    String ors = "dish if 1=2" + "or 1=2".repeat(29) + "or 1=1stand;";
    due.is("its bytes", ors.length(), 197);
    due.is("31 of them, joined by or", Say.rules(x, ors), 1);
    due.is("will", x.plateOf(0, 8), STAND);
    due.is("200 blanks", Say.rules(x, " ".repeat(200)), 0);
    due.is("more must come", Say.rules(x, "dish sit" + " ".repeat(192)), -300);
    due.is("the last byte", Say.rules(x, " ".repeat(199) + "!"), -299);
    due.is("the last byte", Say.rules(x, " ".repeat(199) + "d"), -299);
    due.is("200 times (", Say.rules(x, "(".repeat(200)), -100);
    due.is("a number of 192 digits", Say.rules(x, "dish if " + "1".repeat(192)), -108);
    due.is("a name of 200 letters", Say.rules(x, "d".repeat(200)), -100);
  }

  private static void inPlaceOfAll() {
    due.sentence("THE TAPE tells THE RULES (in place of all): how many; -100 less its FAULT.");
    BridgeService x = new BridgeService();
    x.plate(1, 0, 0, 0);
    due.is("nothing there yet", x.rules(), 0);
    due.is("eight", Say.rules(x, "dish leave;".repeat(8)), 8);
    due.is("one in their place", Say.rules(x, "boat stand;"), 1);
    due.is("none of the eight tells", x.plateOf(0, 8), SIT);
    due.is("eight again", Say.rules(x, "dish leave;".repeat(8)), 8);
    due.is("will", x.plateOf(0, 8), LEAVE);
    due.is("a fault at 0", Say.rules(x, ";"), -100);
    due.is("will", x.plateOf(0, 8), LEAVE);
    due.is("an empty tape tells none", x.rules(), 0);
    due.is("rules", x.many(1), 0);
    due.is("will", x.plateOf(0, 8), SIT);
  }

  private static void holds(String cond, boolean does) {
    BridgeService x = new BridgeService();
    x.plate(1, 0, 0, 0);
    due.is("rules of " + cond, Say.rules(x, "dish if " + cond + " leave; plate stand;"), 2);
    due.is(cond, x.plateOf(0, 8), does ? LEAVE : STAND);
  }

  private static void numbers() {
    due.sentence("N are NUMBERS 0 to 9999.");
    int[] values = {0, 1, 9, 10, 99, 100, 999, 1000, 8192, 9998, 9999};
    for (int left : values) {
      for (int right : values) {
        holds(left + "<" + right, left < right);
        holds(left + "=" + right, left == right);
        holds(left + ">" + right, left > right);
      }
    }
    holds("0000=0", true);
    holds("0009=9", true);
    holds("0999<9999", true);
  }

  private static void fact(BridgeService x, int k, String name, int value) {
    for (int v = Math.max(0, value - 1); v <= value + 1; v++) {
      Say.rules(x, "plate if " + name + "=" + v + " leave; plate stand;");
      due.is(name + " is " + v, x.plateOf(k, 8), v == value ? LEAVE : STAND);
    }
    Say.rules(x, "plate if " + name + ">9998 or 9999<" + name + " leave; plate stand;");
    due.is(name + " is large", x.plateOf(k, 8), STAND);
    Say.rules(x, "plate if " + name + "<9999 and 9998>" + name + " leave; plate stand;");
    due.is(name + " is small", x.plateOf(k, 8), LEAVE);
  }

  private static void facts() {
    due.sentence("FACTS: the YEAR that goes by; its WIDTH, its GRUDGE, MOOD then; its number.");
    BridgeService x = new BridgeService();
    for (int k = 0; k < 6; k++) x.plate(2, 0, k == 5 ? 9 : 0, k);
    x.home(5, 0, 9);
    x.family(0, 0);
    fact(x, 0, "year", 0);
    fact(x, 0, "width", 0);
    fact(x, 5, "width", 9);
    fact(x, 0, "grudge", 0);
    fact(x, 5, "grudge", 14);
    fact(x, 0, "mood", 0);
    fact(x, 0, "number", 0);
    fact(x, 5, "number", 5);
    x = new BridgeService();
    x.plate(1, 0, 0, 0);
    x.ends(16);
    for (int y = 0; y < 15; y++) x.year();
    fact(x, 0, "year", 15);
    fact(x, 0, "mood", 9);
    x.year();
    fact(x, 0, "year", 16);
    for (int seated = 0; seated < 2; seated++) {
      x.change(0, 4, seated);
      fact(x, 0, "mood", 9);
    }
  }

  // in a year MOOD is what the news made of it; YEAR is the one that goes by
  private static void factsThen() {
    due.sentence("FACTS: the YEAR that goes by; its WIDTH, its GRUDGE, MOOD then; its number.");
    for (int mood = 0; mood <= 9; mood++) {
      BridgeService x = new BridgeService();
      x.plate(1, 20, 0, 0);
      x.family(0, mood);
      x.news(0, 13);
      int then = Math.max(0, mood - 3);
      Say.rules(x, "dish if mood = " + then + " and year = 0 stand;");
      due.is("mood " + mood, x.year(), 0);
      due.is("told to stand", x.state(4), 0);
      x.anew();
      x.family(0, mood);
      Say.rules(x, "dish if not mood = " + then + " or year > 0 stand;");
      due.is("mood " + mood, x.year(), 1);
      due.is("told to sit", x.state(4), 1);
    }
    BridgeService x = new BridgeService();
    x.plate(1, 20, 0, 0);
    x.ends(16);
    Say.rules(x, "dish if year < 15 stand;");
    due.is("it sits in the last year", x.when(0), 15);
    x.ends(15);
    due.is("it never sits", x.when(0), -3);
  }

  private static void firstThatTells() {
    due.sentence("the first of THE RULES whose KIND is its or above it, and whose condition holds, tells it");
    BridgeService x = new BridgeService();
    for (int kind = 1; kind <= 5; kind++) x.plate(kind, 0, 0, 0);
    // by rule: what dish, tureen, boat, saucer, cracked do
    String[][] tells = {
        {"plate leave; plate stand;", "22222"}, {"plate if 1=2 leave; plate stand;", "11111"}, {"dish leave; plate stand;", "21111"},
        {"tureen leave; plate stand;", "12211"}, {"boat leave; plate stand;", "11211"}, {"saucer leave; plate stand;", "11122"},
        {"cracked leave; plate stand;", "11112"}, {"boat leave; tureen stand; saucer sit; plate leave;", "21200"},
        {"plate stand; boat leave; cracked leave;", "11111"}, {"tureen if number = 2 leave; boat sit; plate if number > 2 stand;", "00211"},
        {"cracked sit; saucer leave; dish stand;", "10020"}};
    for (String[] t : tells) {
      Say.rules(x, t[0]);
      for (int k = 0; k < 5; k++) due.is("kind " + (k + 1) + " by " + t[0], x.plateOf(k, 8), t[1].charAt(k) - '0');
    }
  }

  private static void noneTells() {
    due.sentence("sit (if no RULE tells), stand, or leave");
    BridgeService x = new BridgeService();
    x.plate(1, 20, 0, 0);
    due.is("no rules", x.plateOf(0, 8), SIT);
    Say.rules(x, "boat leave; dish if 1=2 stand;");
    due.is("none tells", x.plateOf(0, 8), SIT);
    due.is("a year", x.year(), 1);
    due.is("it sat down", x.state(4), 1);
  }
}
