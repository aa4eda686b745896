import java.io.IOException;
import java.lang.reflect.InvocationTargetException;
import java.lang.reflect.Method;
import java.util.ArrayList;
import java.util.Comparator;
import java.util.List;

/** Runs the tests of single sentences, and sees that the document has these sentences and all its refusals a test. */
final class Edges {
  static final int NONE = -1, UNKNOWN = -101, OUTSIDE = -102, STATE = -103, FULL = -104;
  static final long LEAST = Integer.MIN_VALUE, MOST = Integer.MAX_VALUE;
  static final long[] NO_SLOTS = {-1, 24, LEAST, MOST};

  private Edges() {}

  /** Ends the program with 1 if a test of the class, which is about these promises, goes wrong. */
  static void run(Class<?> tests, int firstPromise, int lastPromise) throws IOException {
    List<Method> all = sentences(tests);
    long wrong = 0;
    for (Method test : all) wrong += wrongAnswers(test);
    Due document = new Due(tests.getName() + ", the document's words");
    compareWithDocument(document, all, firstPromise, lastPromise);
    wrong += document.wrong();
    System.out.println(tests.getName() + ": " + all.size() + " sentences, " + wrong + " answers not as due");
    if (wrong != 0) System.exit(1);
  }

  static List<Method> sentences(Class<?> tests) {
    List<Method> all = new ArrayList<>();
    for (Method m : tests.getDeclaredMethods()) {
      if (m.isAnnotationPresent(Sentence.class)) all.add(m);
    }
    all.sort(Comparator.comparingInt((Method m) -> m.getAnnotation(Sentence.class).promise())
        .thenComparing(Method::getName));
    return all;
  }

  /** How many answers of one test are not as due; a test that sees no answer, or throws, is wrong. */
  static long wrongAnswers(Method test) {
    Sentence sentence = test.getAnnotation(Sentence.class);
    Due due = new Due("promise " + sentence.promise() + ", \"" + sentence.words() + "\", " + test.getName());
    try {
      test.invoke(null, due);
    } catch (InvocationTargetException e) {
      due.same("the test", e.getCause(), "no exception");
    } catch (IllegalAccessException e) {
      throw new IllegalStateException(e);
    }
    if (due.seen() == 0) due.same("the test", "nothing", "an answer");
    return due.wrong();
  }

  /** Calls with slot 0 in all places but one, which is no slot. */
  static void refusesEachSlot(Due due, String name, int places) {
    Run run = new Run(due);
    for (int place = 0; place < places; place++) {
      for (long no : NO_SLOTS) {
        long[] arguments = new long[places];
        arguments[place] = no;
        run.is(UNKNOWN, name, arguments);
      }
    }
  }

  private static void compareWithDocument(Due due, List<Method> tests, int first, int last) throws IOException {
    Document document = new Document();
    String terms = document.terms();
    for (int promise = first; promise <= last; promise++) {
      String text = document.promise(promise);
      StringBuilder quoted = new StringBuilder();
      for (Method test : tests) {
        Sentence sentence = test.getAnnotation(Sentence.class);
        if (sentence.promise() != promise) continue;
        quoted.append(sentence.words()).append('\n');
        boolean stands = text.contains(sentence.words()) || terms.contains(sentence.words());
        due.is("promise " + promise + " or the Terms say \"" + sentence.words() + "\"", stands ? 1 : 0, 1);
      }
      due.is("promise " + promise + " has tests", quoted.length() > 0 ? 1 : 0, 1);
      for (String refusal : document.refusals(promise)) {
        boolean fits = quoted.toString().contains(refusal);
        due.is("promise " + promise + " has a test of " + refusal, fits ? 1 : 0, 1);
      }
    }
  }
}
