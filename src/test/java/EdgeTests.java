import java.io.File;
import java.io.IOException;
import java.lang.reflect.InvocationTargetException;
import java.lang.reflect.Method;
import java.nio.file.Files;
import java.nio.file.Path;
import java.util.Arrays;
import java.util.Comparator;
import java.util.Set;
import java.util.TreeSet;

/** Runs every test that bears a Sentence: one for each sentence of the document that names an edge. */
public final class EdgeTests {
  private static final Class<?>[] TESTS = {TermEdges.class, KindEdges.class, TextEdges.class, HouseEdges.class,
      HourEdges.class, FallEdges.class, KnockEdges.class, GuessEdges.class, ChanceEdges.class, KeepEdges.class};
  private static final int PROMISES = 44;
  private static final File SOURCES = new File("src/test/java");
  private static final Path DOCUMENT = Path.of("../shared/DOC.md");

  private static void run(Method test) {
    Sentence sentence = test.getAnnotation(Sentence.class);
    String from = sentence.of() == 0 ? "terms" : "promise " + sentence.of();
    Edge.begin(from + " '" + sentence.says() + "': " + test.getName());
    try {
      test.invoke(null);
    } catch (InvocationTargetException e) {
      Edge.failed("it threw " + e.getCause());
    } catch (IllegalAccessException e) {
      Edge.failed("it can not be run: " + e);
    }
    if (Edge.checksMade() == 0) Edge.failed("it asks nothing");
  }

  /** A hint alone, no failure: the document may have been written anew since the test was. */
  private static void tellIfNotInDocument(String document, Method test) {
    String says = test.getAnnotation(Sentence.class).says();
    if (!document.isEmpty() && !document.contains(says)) {
      System.out.println("EdgeTests: the document has no more '" + says + "'");
    }
  }

  private static String document() throws IOException {
    return Files.isReadable(DOCUMENT) ? Files.readString(DOCUMENT) : "";
  }

  private static void failIfOneIsNotRun() {
    String[] files = SOURCES.list((folder, name) -> name.endsWith("Edges.java"));
    if (files == null) return;
    for (String file : files) {
      if (Arrays.stream(TESTS).noneMatch(c -> file.equals(c.getName() + ".java"))) Edge.failed(file + " is not run");
    }
  }

  public static void main(String[] args) throws IOException {
    String document = document();
    Set<Integer> promises = new TreeSet<>();
    int tests = 0;
    for (Class<?> c : TESTS) {
      Method[] methods = c.getDeclaredMethods();
      Arrays.sort(methods, Comparator.comparing(Method::getName));
      for (Method m : methods) {
        if (!m.isAnnotationPresent(Sentence.class)) continue;
        tellIfNotInDocument(document, m);
        run(m);
        promises.add(m.getAnnotation(Sentence.class).of());
        tests++;
      }
    }
    Edge.begin("EdgeTests");
    failIfOneIsNotRun();
    for (int p = 1; p <= PROMISES; p++) if (!promises.contains(p)) Edge.failed("promise " + p + " has no test");
    int wrong = Edge.wrongOnes();
    System.out.println(wrong == 0 ? "EdgeTests: " + tests + " tests, all is as due" : "EdgeTests: " + wrong + " are not as due");
    if (wrong != 0) System.exit(1);
  }
}
