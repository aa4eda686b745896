import java.io.IOException;
import java.io.OutputStream;
import java.io.PrintStream;
import java.lang.reflect.Method;
import java.net.URI;
import java.net.URL;
import java.net.URLClassLoader;
import java.nio.file.Files;
import java.nio.file.Path;
import java.util.ArrayList;
import java.util.List;
import java.util.Set;
import java.util.TreeSet;
import java.util.concurrent.Callable;
import java.util.concurrent.ExecutorService;
import java.util.concurrent.Executors;
import java.util.concurrent.Future;
import javax.tools.JavaCompiler;
import javax.tools.SimpleJavaFileObject;
import javax.tools.ToolProvider;

/**
 * Tests the tests of single sentences: breaks the class where a sentence of the document is kept, and sees that
 * the sentence's own test goes wrong. No part of .ci/run, since each break hangs on how a line of the class is
 * written; .ci/breaks runs it.
 */
public final class Breaks {
  private static final Path SOURCE = Path.of("src", "main", "java", "LadderSigns.java");
  private static final Path TABLE = Path.of("src", "test", "breaks.txt");
  private static final String[] TESTS = {"BytesEdgesTest", "FieldEdgesTest", "PointsEdgesTest", "SecretsEdgesTest"};

  private Breaks() {}

  /** One way to break the class, and the test that has to see it. */
  private static final class Break implements Callable<String> {
    final String test;
    final String told;
    final String source;

    Break(String test, String told, String source) {
      this.test = test;
      this.told = told;
      this.source = source;
    }

    /** Nothing, if the test sees the break. */
    @Override
    public String call() throws Exception {
      Path folder = Files.createTempDirectory("broken");
      if (!compiles(source, folder)) return test + ": the broken class does not compile: " + told;
      URL own = Path.of(System.getProperty("java.class.path")).toUri().toURL();
      try (URLClassLoader loader = new URLClassLoader(new URL[] {folder.toUri().toURL(), own},
          ClassLoader.getPlatformClassLoader())) {
        return isSeen(loader) ? "" : test + " does not see: " + told;
      } finally {
        remove(folder);
      }
    }

    private boolean isSeen(ClassLoader loader) throws ReflectiveOperationException {
      String[] names = test.split("\\.");
      Class<?> due = loader.loadClass("Due");
      Method method = loader.loadClass(names[0]).getDeclaredMethod(names[1], due);
      Method wrongAnswers = loader.loadClass("Edges").getDeclaredMethod("wrongAnswers", Method.class);
      method.setAccessible(true);
      wrongAnswers.setAccessible(true);
      return (long) wrongAnswers.invoke(null, method) > 0;
    }
  }

  public static void main(String[] args) throws Exception {
    List<Break> all = breaks(Files.readString(SOURCE), Files.readAllLines(TABLE));
    List<String> wrong = new ArrayList<>();
    Set<String> tests = new TreeSet<>();
    for (String name : TESTS) {
      for (Method test : Edges.sentences(Class.forName(name))) tests.add(name + "." + test.getName());
    }
    for (Break one : all) tests.remove(one.test);
    for (String test : tests) wrong.add(test + " has no break");
    PrintStream out = System.out;
    System.setOut(new PrintStream(OutputStream.nullOutputStream()));
    ExecutorService workers = Executors.newFixedThreadPool(Runtime.getRuntime().availableProcessors());
    for (Future<String> told : workers.invokeAll(all)) {
      if (!told.get().isEmpty()) wrong.add(told.get());
    }
    workers.shutdown();
    System.setOut(out);
    for (String line : wrong) System.out.println(line);
    System.out.println(all.size() + " breaks, " + wrong.size() + " not as due");
    if (!wrong.isEmpty() || all.isEmpty()) System.exit(1);
  }

  /**
   * A line of the table has four parts: a test's name, a text of the class behind which it is broken, what stands
   * there, and what is put instead (- is nothing). A line that begins with "and" adds a place to the break above.
   */
  private static List<Break> breaks(String source, List<String> table) {
    List<Break> all = new ArrayList<>();
    for (String line : table) {
      if (line.isBlank() || line.startsWith("#")) continue;
      String[] parts = line.split(" :: ");
      if (parts.length != 4) throw new IllegalStateException("not four parts: " + line);
      boolean isMore = parts[0].equals("and");
      Break above = isMore ? all.remove(all.size() - 1) : new Break(parts[0], "", source);
      String broken = replaced(above.source, parts[1], parts[2], parts[3].equals("-") ? "" : parts[3]);
      all.add(new Break(above.test, above.told + "(" + parts[2] + " -> " + parts[3] + ")", broken));
    }
    return all;
  }

  private static String replaced(String source, String behind, String what, String instead) {
    int from = source.indexOf(behind);
    int at = from < 0 ? -1 : source.indexOf(what, from);
    if (at < 0) throw new IllegalStateException("not in the class: " + what + ", behind " + behind);
    return source.substring(0, at) + instead + source.substring(at + what.length());
  }

  private static boolean compiles(String source, Path folder) {
    JavaCompiler compiler = ToolProvider.getSystemJavaCompiler();
    SimpleJavaFileObject file = new SimpleJavaFileObject(URI.create("string:///LadderSigns.java"),
        SimpleJavaFileObject.Kind.SOURCE) {
      @Override
      public CharSequence getCharContent(boolean ignored) {
        return source;
      }
    };
    return compiler.getTask(null, null, null, List.of("-d", folder.toString()), null, List.of(file)).call();
  }

  private static void remove(Path folder) throws IOException {
    try (var files = Files.list(folder)) {
      for (Path file : (Iterable<Path>) files::iterator) Files.delete(file);
    }
    Files.delete(folder);
  }
}
