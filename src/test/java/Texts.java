import java.util.function.IntBinaryOperator;

// Texts of rules by chance, most of them right, some of them with a fault.
final class Texts {
  private static final String[] KINDS = {"plate", "dish", "tureen", "boat", "saucer", "cracked"};
  private static final String[] DOS = {"sit", "stand", "leave"};
  private static final String[] FACTS = {"year", "width", "grudge", "mood", "number"};
  private static final String[] WORDS = {
    "plate", "dish", "tureen", "boat", "saucer", "cracked", "sit", "stand", "leave", "if", "and", "or", "not", "year",
    "width", "grudge", "mood", "number", "0", "12", "9999", "10000", "00012", "<", "=", ">", "(", ")", ";", "!", "Sit", "platex", "si", "z"};

  private final IntBinaryOperator draw;
  private final StringBuilder text = new StringBuilder();

  private Texts(IntBinaryOperator draw) {
    this.draw = draw;
  }

  static String draw(IntBinaryOperator draw) {
    Texts t = new Texts(draw);
    int rules = draw.applyAsInt(0, 12) == 0 ? 9 : draw.applyAsInt(0, 4);
    for (int i = 0; i < rules; i++) t.rule(rules < 5);
    int faults = Math.max(0, draw.applyAsInt(-3, 2));
    for (int i = 0; i < faults; i++) t.spoil();
    if (t.text.length() > 200) t.text.setLength(200);
    return t.text.toString();
  }

  private int upTo(int most) {
    return draw.applyAsInt(0, most);
  }

  private void word(String w) {
    int length = text.length();
    boolean joins = length > 0 && Character.isLetterOrDigit(text.charAt(length - 1)) && Character.isLetterOrDigit(w.charAt(0));
    if (joins || upTo(3) == 0) text.append(' ');
    text.append(w);
    if (upTo(12) == 0) text.append("  ");
  }

  private void rule(boolean withConditions) {
    word(KINDS[upTo(5)]);
    if (withConditions && upTo(3) > 0) {
      word("if");
      cond(0);
    }
    word(DOS[upTo(2)]);
    word(";");
  }

  private void cond(int open) {
    all(open);
    while (upTo(3) == 0) {
      word("or");
      all(open);
    }
  }

  private void all(int open) {
    one(open);
    while (upTo(3) == 0) {
      word("and");
      one(open);
    }
  }

  private void one(int open) {
    while (upTo(4) == 0) word("not");
    if (upTo(3) == 0 && (open < 3 || upTo(3) == 0) && open < 4) {
      word("(");
      cond(open + 1);
      word(")");
      return;
    }
    value();
    word(new String[] {"<", "=", ">"}[upTo(2)]);
    value();
  }

  private void value() {
    if (upTo(1) == 0) word(FACTS[upTo(4)]);
    else word(String.valueOf(upTo(12)));
  }

  private void spoil() {
    int at = upTo(text.length());
    switch (upTo(3)) {
      case 0: text.insert(at, " " + WORDS[upTo(WORDS.length - 1)] + " "); break;
      case 1: if (at < text.length()) text.deleteCharAt(at); break;
      case 2: text.setLength(at); break;
      default: text.insert(at, (char) upTo(255)); break;
    }
  }
}
