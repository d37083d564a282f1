// Counts and prints answers that aren't the ones that are due.
final class Due {
  private int asked = 0;
  private int wrong = 0;
  private String promise = "";

  void promise(int number, String name) {
    promise = "promise " + number + " (" + name + "): ";
  }

  void is(String call, long got, long want) {
    asked++;
    if (got == want) return;
    wrong++;
    System.out.println(promise + call + " answered " + got + ", due is " + want);
  }

  void end() {
    System.out.println(asked + " answers, " + wrong + " not as due");
    if (wrong != 0) System.exit(1);
  }
}
