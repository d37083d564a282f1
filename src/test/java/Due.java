import java.io.IOException;
import java.io.UncheckedIOException;
import java.nio.file.Files;
import java.nio.file.Path;

// Counts and prints answers that aren't the ones that are due. Run from the root of the project.
final class Due {
  private static final Path DOCUMENT = Path.of("../shared/DOC.md");

  private final String document;
  private int asked = 0;
  private int wrong = 0;
  private String promise = "";

  Due() {
    try {
      document = Files.readString(DOCUMENT).replaceAll("\\s+", " ");
    } catch (IOException e) {
      throw new UncheckedIOException(e);
    }
  }

  void promise(int number, String name) {
    promise = "promise " + number + " (" + name + "): ";
  }

  // words of the document, by which the answers that follow are due
  void sentence(String words) {
    promise = "\"" + words + "\": ";
    is("the document says so", document.contains(words) ? 1 : 0, 1);
  }

  void is(String call, long got, long want) {
    asked++;
    if (got == want) return;
    wrong++;
    System.out.println(promise + call + " answered " + got + ", due is " + want);
  }

  void end() {
    System.out.println(asked + " answers, " + wrong + " not as due");
    if (wrong != 0) System.exit(1);
  }
}
