/** Counts the answers of one test program that are not the ones that are due. */
final class Due {
  private static final int MOST_PRINTED = 20;

  private final String name;
  private long seen = 0;
  private long wrong = 0;

  Due(String name) {
    this.name = name;
  }

  void is(String call, long got, long want) {
    same(call, Long.valueOf(got), Long.valueOf(want));
  }

  void same(String call, Object got, Object want) {
    seen++;
    if (want.equals(got)) return;
    wrong++;
    if (wrong <= MOST_PRINTED) {
      System.out.println(name + ": " + call + " answered " + got + ", due is " + want);
    }
  }

  long seen() {
    return seen;
  }

  long wrong() {
    return wrong;
  }

  void end() {
    System.out.println(name + ": " + seen + " answers seen, " + wrong + " not as due");
    if (wrong != 0 || seen == 0) System.exit(1);
  }
}
